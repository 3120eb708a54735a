theorem hdX1_slotOf : yX1_slotOf.cls ≠ "java/lang/invoke/MethodHandle" ∧ yX1_slotOf.cls ≠ "java/lang/invoke/VarHandle" ∧ (parseMethodDescriptor yX1_slotOf.desc).map (fun d => d.parameters.length) = some 2 := by decide +kernel
theorem hdX1_notes : yX1_notes.cls = RX1 ∧ yX1_notes.cls ≠ "java/lang/invoke/MethodHandle" ∧ yX1_notes.cls ≠ "java/lang/invoke/VarHandle" ∧ (parseMethodDescriptor yX1_notes.desc).map (fun d => d.parameters.length) = some 0 := by decide +kernel
theorem hdX1_version : yX1_version.cls = RX1 ∧ yX1_version.cls ≠ "java/lang/invoke/MethodHandle" ∧ yX1_version.cls ≠ "java/lang/invoke/VarHandle" ∧ (parseMethodDescriptor yX1_version.desc).map (fun d => d.parameters.length) = some 0 := by decide +kernel
theorem hdX1_hasNote : yX1_hasNote.cls = RX1 ∧ yX1_hasNote.cls ≠ "java/lang/invoke/MethodHandle" ∧ yX1_hasNote.cls ≠ "java/lang/invoke/VarHandle" ∧ (parseMethodDescriptor yX1_hasNote.desc).map (fun d => d.parameters.length) = some 1 := by decide +kernel
theorem hdX1_size : yX1_size.cls = RX1 ∧ yX1_size.cls ≠ "java/lang/invoke/MethodHandle" ∧ yX1_size.cls ≠ "java/lang/invoke/VarHandle" ∧ (parseMethodDescriptor yX1_size.desc).map (fun d => d.parameters.length) = some 1 := by decide +kernel
theorem hdX1_hasReference : yX1_hasReference.cls = RX1 ∧ yX1_hasReference.cls ≠ "java/lang/invoke/MethodHandle" ∧ yX1_hasReference.cls ≠ "java/lang/invoke/VarHandle" ∧ (parseMethodDescriptor yX1_hasReference.desc).map (fun d => d.parameters.length) = some 2 := by decide +kernel
theorem hdX1_hasSlot : yX1_hasSlot.cls = RX1 ∧ yX1_hasSlot.cls ≠ "java/lang/invoke/MethodHandle" ∧ yX1_hasSlot.cls ≠ "java/lang/invoke/VarHandle" ∧ (parseMethodDescriptor yX1_hasSlot.desc).map (fun d => d.parameters.length) = some 1 := by decide +kernel
theorem hdX1_cite : yX1_cite.cls = RX1 ∧ yX1_cite.cls ≠ "java/lang/invoke/MethodHandle" ∧ yX1_cite.cls ≠ "java/lang/invoke/VarHandle" ∧ (parseMethodDescriptor yX1_cite.desc).map (fun d => d.parameters.length) = some 1 := by decide +kernel
theorem hdX1_fullSlots : yX1_fullSlots.cls = RX1 ∧ yX1_fullSlots.cls ≠ "java/lang/invoke/MethodHandle" ∧ yX1_fullSlots.cls ≠ "java/lang/invoke/VarHandle" ∧ (parseMethodDescriptor yX1_fullSlots.desc).map (fun d => d.parameters.length) = some 0 := by decide +kernel
theorem hdX1_clear : yX1_clear.cls = RX1 ∧ yX1_clear.cls ≠ "java/lang/invoke/MethodHandle" ∧ yX1_clear.cls ≠ "java/lang/invoke/VarHandle" ∧ (parseMethodDescriptor yX1_clear.desc).map (fun d => d.parameters.length) = some 0 := by decide +kernel
theorem hdX1_openNote : yX1_openNote.cls = RX1 ∧ yX1_openNote.cls ≠ "java/lang/invoke/MethodHandle" ∧ yX1_openNote.cls ≠ "java/lang/invoke/VarHandle" ∧ (parseMethodDescriptor yX1_openNote.desc).map (fun d => d.parameters.length) = some 0 := by decide +kernel
theorem hdX1_replaceCite : yX1_replaceCite.cls = RX1 ∧ yX1_replaceCite.cls ≠ "java/lang/invoke/MethodHandle" ∧ yX1_replaceCite.cls ≠ "java/lang/invoke/VarHandle" ∧ (parseMethodDescriptor yX1_replaceCite.desc).map (fun d => d.parameters.length) = some 2 := by decide +kernel
theorem hdX1_addCite : yX1_addCite.cls = RX1 ∧ yX1_addCite.cls ≠ "java/lang/invoke/MethodHandle" ∧ yX1_addCite.cls ≠ "java/lang/invoke/VarHandle" ∧ (parseMethodDescriptor yX1_addCite.desc).map (fun d => d.parameters.length) = some 1 := by decide +kernel
theorem hdX1_copyFrom : yX1_copyFrom.cls = RX1 ∧ yX1_copyFrom.cls ≠ "java/lang/invoke/MethodHandle" ∧ yX1_copyFrom.cls ≠ "java/lang/invoke/VarHandle" ∧ (parseMethodDescriptor yX1_copyFrom.desc).map (fun d => d.parameters.length) = some 1 := by decide +kernel
theorem hdX1_saveTo : yX1_saveTo.cls = RX1 ∧ yX1_saveTo.cls ≠ "java/lang/invoke/MethodHandle" ∧ yX1_saveTo.cls ≠ "java/lang/invoke/VarHandle" ∧ (parseMethodDescriptor yX1_saveTo.desc).map (fun d => d.parameters.length) = some 3 := by decide +kernel
theorem hdX1_loadFrom : yX1_loadFrom.cls = RX1 ∧ yX1_loadFrom.cls ≠ "java/lang/invoke/MethodHandle" ∧ yX1_loadFrom.cls ≠ "java/lang/invoke/VarHandle" ∧ (parseMethodDescriptor yX1_loadFrom.desc).map (fun d => d.parameters.length) = some 4 := by decide +kernel
theorem hdX1_mendNumbers : yX1_mendNumbers.cls = RX1 ∧ yX1_mendNumbers.cls ≠ "java/lang/invoke/MethodHandle" ∧ yX1_mendNumbers.cls ≠ "java/lang/invoke/VarHandle" ∧ (parseMethodDescriptor yX1_mendNumbers.desc).map (fun d => d.parameters.length) = some 5 := by decide +kernel
theorem hdX1_swapWithNext : yX1_swapWithNext.cls = RX1 ∧ yX1_swapWithNext.cls ≠ "java/lang/invoke/MethodHandle" ∧ yX1_swapWithNext.cls ≠ "java/lang/invoke/VarHandle" ∧ (parseMethodDescriptor yX1_swapWithNext.desc).map (fun d => d.parameters.length) = some 1 := by decide +kernel
theorem hdX1_rotateNotes : yX1_rotateNotes.cls = RX1 ∧ yX1_rotateNotes.cls ≠ "java/lang/invoke/MethodHandle" ∧ yX1_rotateNotes.cls ≠ "java/lang/invoke/VarHandle" ∧ (parseMethodDescriptor yX1_rotateNotes.desc).map (fun d => d.parameters.length) = some 2 := by decide +kernel
theorem hdX1_insertNote : yX1_insertNote.cls = RX1 ∧ yX1_insertNote.cls ≠ "java/lang/invoke/MethodHandle" ∧ yX1_insertNote.cls ≠ "java/lang/invoke/VarHandle" ∧ (parseMethodDescriptor yX1_insertNote.desc).map (fun d => d.parameters.length) = some 3 := by decide +kernel
theorem hdX1_dropNote : yX1_dropNote.cls = RX1 ∧ yX1_dropNote.cls ≠ "java/lang/invoke/MethodHandle" ∧ yX1_dropNote.cls ≠ "java/lang/invoke/VarHandle" ∧ (parseMethodDescriptor yX1_dropNote.desc).map (fun d => d.parameters.length) = some 2 := by decide +kernel
theorem hdX1_shiftNote : yX1_shiftNote.cls = RX1 ∧ yX1_shiftNote.cls ≠ "java/lang/invoke/MethodHandle" ∧ yX1_shiftNote.cls ≠ "java/lang/invoke/VarHandle" ∧ (parseMethodDescriptor yX1_shiftNote.desc).map (fun d => d.parameters.length) = some 3 := by decide +kernel
def f_X1_slotOf (p0 : Int32) (p1 : Int32) : Option (Int32) :=
  some (((4 : Int32) * p0) + p1)
set_option maxHeartbeats 4000000 in
set_option maxRecDepth 100000 in
theorem c_X1_slotOf (l : Launch) (D : va_G) (cI cJ cZ : ClassId) (sz : Nat) (p0 : Int32) (p1 : Int32) (rR : Int32) (hf : f_X1_slotOf p0 p1 = some rR) : Met l yX1_slotOf wsX1_slotOf { frames := 0, cells := 0, slots := 0, locals := 0 } (pn_Pc D cI cJ cZ [.int p0, .int p1] [] sz) (pn_Qi D rR [] (va_A [] sz)) 0 0 (va_A [] sz) := by
  refine pn_entry (cc := cX1_slotOf) (maxL := 2) (ret := (some .int)) (Qf := pn_Qi D rR []) (by decide) rfl (Nat.le_of_ble_eq_true rfl) ?_
  intro p e s m args below meth c A ls H locs Qm hQ hx hb hr hlocks hml hown hts hK hP hD hA hS hl
  have hl : lv_has ls 2 [(0, .int p0), (1, .int p1)] := hl
  rw [f_X1_slotOf] at hf
  refine lv_iconst (v := (4)) hx hb dX1_slotOf_0 (by decide) ?_
  refine lv_iload_n hx hb dX1_slotOf_1 rfl (lv_at hl 0 rfl) ?_
  refine lv_imul hx hb dX1_slotOf_2 ?_
  refine lv_iload_n hx hb dX1_slotOf_3 rfl (lv_at hl 1 rfl) ?_
  refine lv_iadd hx hb dX1_slotOf_4 ?_
  cases hf
  rw [hQ]
  exact pn_reti hx hb hr hlocks hP hS rfl dX1_slotOf_5
def f_X1_notes (v_t_notes : Int32) : Option (Int32) :=
  some v_t_notes
set_option maxHeartbeats 4000000 in
set_option maxRecDepth 100000 in
theorem c_X1_notes (l : Launch) (D : va_G) (cI cJ cZ : ClassId) (a_t a_t_sizes a_t_cites : Nat) (sz : Nat) (v_t_version : Int32) (v_t_notes : Int32) (rR : Int32) (hf : f_X1_notes v_t_notes = some rR) : Met l yX1_notes wsX1_notes { frames := 0, cells := 0, slots := 0, locals := 0 } (pn_Pc D cI cJ cZ [.ref a_t] [(a_t, .inr (0, [.ref a_t_sizes, .ref a_t_cites, .int v_t_notes, .int v_t_version]))] sz) (pn_Qi D rR [(a_t, .inr (0, [.ref a_t_sizes, .ref a_t_cites, .int v_t_notes, .int v_t_version]))] (va_A [(a_t, .inr (0, [.ref a_t_sizes, .ref a_t_cites, .int v_t_notes, .int v_t_version]))] sz)) 0 0 (va_A [(a_t, .inr (0, [.ref a_t_sizes, .ref a_t_cites, .int v_t_notes, .int v_t_version]))] sz) := by
  refine pn_entry (cc := cX1_notes) (maxL := 1) (ret := (some .int)) (Qf := pn_Qi D rR [(a_t, .inr (0, [.ref a_t_sizes, .ref a_t_cites, .int v_t_notes, .int v_t_version]))]) (by decide) rfl (Nat.le_of_ble_eq_true rfl) ?_
  intro p e s m args below meth c A ls H locs Qm hQ hx hb hr hlocks hml hown hts hK hP hD hA hS hl
  have hl : lv_has ls 1 [(0, .ref a_t)] := hl
  have hinX1 : ∀ w ∈ wsX10, w ∈ wsX1_notes := by decide +kernel
  have fl_19 := hts (.fieldLink RX1 19 "PointingNotes$Paper" "notes" "I") (by decide +kernel)
  rw [f_X1_notes] at hf
  refine lv_aload_n hx hb dX1_notes_0 rfl (lv_at hl 0 rfl) ?_
  refine va_get (D := D) (ci := 0) (v := .int v_t_notes) (C := RX1) (T := TX1) (N := 4) hx hb hts hinX1 hown hK.1 hP 0 rfl rfl 2 (by decide) fl_19 (fun _ h9 => h9) rfl dX1_notes_1 ?_
  cases hf
  rw [hQ]
  exact pn_reti hx hb hr hlocks hP hS rfl dX1_notes_4
def f_X1_version (v_t_version : Int32) : Option (Int32) :=
  some v_t_version
set_option maxHeartbeats 4000000 in
set_option maxRecDepth 100000 in
theorem c_X1_version (l : Launch) (D : va_G) (cI cJ cZ : ClassId) (a_t a_t_sizes a_t_cites : Nat) (sz : Nat) (v_t_notes : Int32) (v_t_version : Int32) (rR : Int32) (hf : f_X1_version v_t_version = some rR) : Met l yX1_version wsX1_version { frames := 0, cells := 0, slots := 0, locals := 0 } (pn_Pc D cI cJ cZ [.ref a_t] [(a_t, .inr (0, [.ref a_t_sizes, .ref a_t_cites, .int v_t_notes, .int v_t_version]))] sz) (pn_Qi D rR [(a_t, .inr (0, [.ref a_t_sizes, .ref a_t_cites, .int v_t_notes, .int v_t_version]))] (va_A [(a_t, .inr (0, [.ref a_t_sizes, .ref a_t_cites, .int v_t_notes, .int v_t_version]))] sz)) 0 0 (va_A [(a_t, .inr (0, [.ref a_t_sizes, .ref a_t_cites, .int v_t_notes, .int v_t_version]))] sz) := by
  refine pn_entry (cc := cX1_version) (maxL := 1) (ret := (some .int)) (Qf := pn_Qi D rR [(a_t, .inr (0, [.ref a_t_sizes, .ref a_t_cites, .int v_t_notes, .int v_t_version]))]) (by decide) rfl (Nat.le_of_ble_eq_true rfl) ?_
  intro p e s m args below meth c A ls H locs Qm hQ hx hb hr hlocks hml hown hts hK hP hD hA hS hl
  have hl : lv_has ls 1 [(0, .ref a_t)] := hl
  have hinX1 : ∀ w ∈ wsX10, w ∈ wsX1_version := by decide +kernel
  have fl_23 := hts (.fieldLink RX1 23 "PointingNotes$Paper" "version" "I") (by decide +kernel)
  rw [f_X1_version] at hf
  refine lv_aload_n hx hb dX1_version_0 rfl (lv_at hl 0 rfl) ?_
  refine va_get (D := D) (ci := 0) (v := .int v_t_version) (C := RX1) (T := TX1) (N := 4) hx hb hts hinX1 hown hK.1 hP 0 rfl rfl 3 (by decide) fl_23 (fun _ h9 => h9) rfl dX1_version_1 ?_
  cases hf
  rw [hQ]
  exact pn_reti hx hb hr hlocks hP hS rfl dX1_version_4
def f_X1_hasNote (v_t_notes : Int32) (p1 : Int32) : Option (Int32) :=
  if p1 < 0 then
  some (0 : Int32)
  else
  if v_t_notes ≤ p1 then
  some (0 : Int32)
  else
  some (1 : Int32)
set_option maxHeartbeats 4000000 in
set_option maxRecDepth 100000 in
theorem c_X1_hasNote (l : Launch) (D : va_G) (cI cJ cZ : ClassId) (a_t a_t_sizes a_t_cites : Nat) (sz : Nat) (v_t_version : Int32) (v_t_notes : Int32) (p1 : Int32) (rR : Int32) (hf : f_X1_hasNote v_t_notes p1 = some rR) : Met l yX1_hasNote wsX1_hasNote { frames := 0, cells := 0, slots := 0, locals := 0 } (pn_Pc D cI cJ cZ [.ref a_t, .int p1] [(a_t, .inr (0, [.ref a_t_sizes, .ref a_t_cites, .int v_t_notes, .int v_t_version]))] sz) (pn_Qi D rR [(a_t, .inr (0, [.ref a_t_sizes, .ref a_t_cites, .int v_t_notes, .int v_t_version]))] (va_A [(a_t, .inr (0, [.ref a_t_sizes, .ref a_t_cites, .int v_t_notes, .int v_t_version]))] sz)) 0 0 (va_A [(a_t, .inr (0, [.ref a_t_sizes, .ref a_t_cites, .int v_t_notes, .int v_t_version]))] sz) := by
  refine pn_entry (cc := cX1_hasNote) (maxL := 2) (ret := (some .boolean)) (Qf := pn_Qi D rR [(a_t, .inr (0, [.ref a_t_sizes, .ref a_t_cites, .int v_t_notes, .int v_t_version]))]) (by decide) rfl (Nat.le_of_ble_eq_true rfl) ?_
  intro p e s m args below meth c A ls H locs Qm hQ hx hb hr hlocks hml hown hts hK hP hD hA hS hl
  have hl : lv_has ls 2 [(0, .ref a_t), (1, .int p1)] := hl
  have hinX1 : ∀ w ∈ wsX10, w ∈ wsX1_hasNote := by decide +kernel
  have fl_19 := hts (.fieldLink RX1 19 "PointingNotes$Paper" "notes" "I") (by decide +kernel)
  rw [f_X1_hasNote] at hf
  refine lv_iload_n hx hb dX1_hasNote_0 rfl (lv_at hl 1 rfl) ?_
  refine lv_if_lt (tgt := 16) hx hb dX1_hasNote_1 (by decide) (fun c1 => ?_) (fun c1 => ?_)
  · have hf := pn_ifp c1 hf
    refine lv_iconst (v := (0)) hx hb dX1_hasNote_16 (by decide) ?_
    cases hf
    rw [hQ]
    exact pn_retz hx hb hr hlocks hP hS rfl rfl dX1_hasNote_17
  · have hf := pn_ifn c1 hf
    refine lv_iload_n hx hb dX1_hasNote_4 rfl (lv_at hl 1 rfl) ?_
    refine lv_aload_n hx hb dX1_hasNote_5 rfl (lv_at hl 0 rfl) ?_
    refine va_get (D := D) (ci := 0) (v := .int v_t_notes) (C := RX1) (T := TX1) (N := 4) hx hb hts hinX1 hown hK.1 hP 0 rfl rfl 2 (by decide) fl_19 (fun _ h9 => h9) rfl dX1_hasNote_6 ?_
    refine lv_icmp_ge (tgt := 16) hx hb dX1_hasNote_9 (by decide) (fun c2 => ?_) (fun c2 => ?_)
    · have hf := pn_ifp c2 hf
      refine lv_iconst (v := (0)) hx hb dX1_hasNote_16 (by decide) ?_
      cases hf
      rw [hQ]
      exact pn_retz hx hb hr hlocks hP hS rfl rfl dX1_hasNote_17
    · have hf := pn_ifn c2 hf
      refine lv_iconst (v := (1)) hx hb dX1_hasNote_12 (by decide) ?_
      refine lv_goto (tgt := 17) hx hb dX1_hasNote_13 (by decide) ?_
      cases hf
      rw [hQ]
      exact pn_retz hx hb hr hlocks hP hS rfl rfl dX1_hasNote_17
def f_X1_size (v_t_notes : Int32) (r_t_sizes : Nat → Int32) (p1 : Int32) : Option (Int32) :=
  if p1 < 0 then
  some (0 : Int32)
  else
  if v_t_notes ≤ p1 then
  some (0 : Int32)
  else
  if (8 : Int32) ≤ p1 then
  some (0 : Int32)
  else
  pn_rd 8 r_t_sizes p1 fun w4 =>
  some w4
set_option maxHeartbeats 4000000 in
set_option maxRecDepth 100000 in
theorem c_X1_size (l : Launch) (D : va_G) (cI cJ cZ : ClassId) (a_t a_t_sizes a_t_cites : Nat) (sz : Nat) (v_t_version : Int32) (v_t_notes : Int32) (r_t_sizes : Nat → Int32) (p1 : Int32) (rR : Int32) (hf : f_X1_size v_t_notes r_t_sizes p1 = some rR) : Met l yX1_size wsX1_size { frames := 0, cells := 0, slots := 0, locals := 0 } (pn_Pc D cI cJ cZ [.ref a_t, .int p1] [(a_t, .inr (0, [.ref a_t_sizes, .ref a_t_cites, .int v_t_notes, .int v_t_version])), (a_t_sizes, .inl (cI, 8, .inl r_t_sizes))] sz) (pn_Qi D rR [(a_t, .inr (0, [.ref a_t_sizes, .ref a_t_cites, .int v_t_notes, .int v_t_version])), (a_t_sizes, .inl (cI, 8, .inl r_t_sizes))] (va_A [(a_t, .inr (0, [.ref a_t_sizes, .ref a_t_cites, .int v_t_notes, .int v_t_version])), (a_t_sizes, .inl (cI, 8, .inl r_t_sizes))] sz)) 0 0 (va_A [(a_t, .inr (0, [.ref a_t_sizes, .ref a_t_cites, .int v_t_notes, .int v_t_version])), (a_t_sizes, .inl (cI, 8, .inl r_t_sizes))] sz) := by
  refine pn_entry (cc := cX1_size) (maxL := 2) (ret := (some .int)) (Qf := pn_Qi D rR [(a_t, .inr (0, [.ref a_t_sizes, .ref a_t_cites, .int v_t_notes, .int v_t_version])), (a_t_sizes, .inl (cI, 8, .inl r_t_sizes))]) (by decide) rfl (Nat.le_of_ble_eq_true rfl) ?_
  intro p e s m args below meth c A ls H locs Qm hQ hx hb hr hlocks hml hown hts hK hP hD hA hS hl
  have hl : lv_has ls 2 [(0, .ref a_t), (1, .int p1)] := hl
  have hinX1 : ∀ w ∈ wsX10, w ∈ wsX1_size := by decide +kernel
  have fl_9 := hts (.fieldLink RX1 9 "PointingNotes$Paper" "sizes" "[I") (by decide +kernel)
  have fl_19 := hts (.fieldLink RX1 19 "PointingNotes$Paper" "notes" "I") (by decide +kernel)
  rw [f_X1_size] at hf
  refine lv_iload_n hx hb dX1_size_0 rfl (lv_at hl 1 rfl) ?_
  refine lv_if_lt (tgt := 27) hx hb dX1_size_1 (by decide) (fun c1 => ?_) (fun c1 => ?_)
  · have hf := pn_ifp c1 hf
    refine lv_iconst (v := (0)) hx hb dX1_size_27 (by decide) ?_
    cases hf
    rw [hQ]
    exact pn_reti hx hb hr hlocks hP hS rfl dX1_size_28
  · have hf := pn_ifn c1 hf
    refine lv_iload_n hx hb dX1_size_4 rfl (lv_at hl 1 rfl) ?_
    refine lv_aload_n hx hb dX1_size_5 rfl (lv_at hl 0 rfl) ?_
    refine va_get (D := D) (ci := 0) (v := .int v_t_notes) (C := RX1) (T := TX1) (N := 4) hx hb hts hinX1 hown hK.1 hP 0 rfl rfl 2 (by decide) fl_19 (fun _ h9 => h9) rfl dX1_size_6 ?_
    refine lv_icmp_ge (tgt := 27) hx hb dX1_size_9 (by decide) (fun c2 => ?_) (fun c2 => ?_)
    · have hf := pn_ifp c2 hf
      refine lv_iconst (v := (0)) hx hb dX1_size_27 (by decide) ?_
      cases hf
      rw [hQ]
      exact pn_reti hx hb hr hlocks hP hS rfl dX1_size_28
    · have hf := pn_ifn c2 hf
      refine lv_iload_n hx hb dX1_size_12 rfl (lv_at hl 1 rfl) ?_
      refine lv_bipush (v := (8)) hx hb dX1_size_13 (by decide) ?_
      refine lv_icmp_ge (tgt := 27) hx hb dX1_size_15 (by decide) (fun c3 => ?_) (fun c3 => ?_)
      · have hf := pn_ifp c3 hf
        refine lv_iconst (v := (0)) hx hb dX1_size_27 (by decide) ?_
        cases hf
        rw [hQ]
        exact pn_reti hx hb hr hlocks hP hS rfl dX1_size_28
      · have hf := pn_ifn c3 hf
        refine lv_aload_n hx hb dX1_size_18 rfl (lv_at hl 0 rfl) ?_
        refine va_get (D := D) (ci := 0) (v := .ref a_t_sizes) (C := RX1) (T := TX1) (N := 4) hx hb hts hinX1 hown hK.1 hP 0 rfl rfl 0 (by decide) fl_9 (fun _ h9 => h9) rfl dX1_size_19 ?_
        refine lv_iload_n hx hb dX1_size_22 rfl (lv_at hl 1 rfl) ?_
        obtain ⟨hi5, w4, ew4, hf⟩ := pn_rd_at hf
        refine pn_ldI hx hb hK.1 hP 1 0 rfl rfl hi5 ew4 dX1_size_23 ?_
        refine lv_goto (tgt := 28) hx hb dX1_size_24 (by decide) ?_
        cases hf
        rw [hQ]
        exact pn_reti hx hb hr hlocks hP hS rfl dX1_size_28
def f_X1_hasReference (v_t_notes : Int32) (r_t_sizes : Nat → Int32) (p1 : Int32) (p2 : Int32) : Option (Int32) :=
  if p2 < 0 then
  some (0 : Int32)
  else
  pn_bd1 (f_X1_size v_t_notes r_t_sizes p1) fun ru2 =>
  if ru2 ≤ p2 then
  some (0 : Int32)
  else
  some (1 : Int32)
set_option maxHeartbeats 4000000 in
set_option maxRecDepth 100000 in
theorem c_X1_hasReference (l : Launch) (D : va_G) (cI cJ cZ : ClassId) (a_t a_t_sizes a_t_cites : Nat) (sz : Nat) (v_t_version : Int32) (v_t_notes : Int32) (r_t_sizes : Nat → Int32) (p1 : Int32) (p2 : Int32) (rR : Int32) (hf : f_X1_hasReference v_t_notes r_t_sizes p1 p2 = some rR) : Met l yX1_hasReference wsX1_hasReference { frames := 1, cells := 0, slots := 0, locals := 21 } (pn_Pc D cI cJ cZ [.ref a_t, .int p1, .int p2] [(a_t, .inr (0, [.ref a_t_sizes, .ref a_t_cites, .int v_t_notes, .int v_t_version])), (a_t_sizes, .inl (cI, 8, .inl r_t_sizes))] sz) (pn_Qi D rR [(a_t, .inr (0, [.ref a_t_sizes, .ref a_t_cites, .int v_t_notes, .int v_t_version])), (a_t_sizes, .inl (cI, 8, .inl r_t_sizes))] (va_A [(a_t, .inr (0, [.ref a_t_sizes, .ref a_t_cites, .int v_t_notes, .int v_t_version])), (a_t_sizes, .inl (cI, 8, .inl r_t_sizes))] sz)) 0 0 (va_A [(a_t, .inr (0, [.ref a_t_sizes, .ref a_t_cites, .int v_t_notes, .int v_t_version])), (a_t_sizes, .inl (cI, 8, .inl r_t_sizes))] sz) := by
  refine pn_entry (cc := cX1_hasReference) (maxL := 3) (ret := (some .boolean)) (Qf := pn_Qi D rR [(a_t, .inr (0, [.ref a_t_sizes, .ref a_t_cites, .int v_t_notes, .int v_t_version])), (a_t_sizes, .inl (cI, 8, .inl r_t_sizes))]) (by decide) rfl (Nat.le_of_ble_eq_true rfl) ?_
  intro p e s m args below meth c A ls H locs Qm hQ hx hb hr hlocks hml hown hts hK hP hD hA hS hl
  have hl : lv_has ls 3 [(0, .ref a_t), (1, .int p1), (2, .int p2)] := hl
  rw [f_X1_hasReference] at hf
  refine lv_iload_n hx hb dX1_hasReference_0 rfl (lv_at hl 2 rfl) ?_
  refine lv_if_lt (tgt := 17) hx hb dX1_hasReference_1 (by decide) (fun c1 => ?_) (fun c1 => ?_)
  · have hf := pn_ifp c1 hf
    refine lv_iconst (v := (0)) hx hb dX1_hasReference_17 (by decide) ?_
    cases hf
    rw [hQ]
    exact pn_retz hx hb hr hlocks hP hS rfl rfl dX1_hasReference_18
  · have hf := pn_ifn c1 hf
    refine lv_iload_n hx hb dX1_hasReference_4 rfl (lv_at hl 2 rfl) ?_
    refine lv_aload_n hx hb dX1_hasReference_5 rfl (lv_at hl 0 rfl) ?_
    refine lv_iload_n hx hb dX1_hasReference_6 rfl (lv_at hl 1 rfl) ?_
    obtain ⟨ru2, hu2, hf⟩ := pn_bd1_at hf
    refine pn_calli [0, 1] (va_runV (As := [.int p1]) (rest := [.int p2]) ⟨hx, hb, hml, hown, hts⟩ (c_X1_size l D cI cJ cZ a_t a_t_sizes a_t_cites H.size v_t_version v_t_notes r_t_sizes p1 ru2 hu2) (cwV 1 hts gX1_hasReference_X1_size rfl rfl rfl hdX1_size ⟨Nat.le_of_ble_eq_true rfl, Nat.le_of_ble_eq_true rfl⟩) (pn_preV [0, 1] hP (hD.addr rfl) hK rfl rfl (q0 := 0) (ci := 0) rfl rfl) rfl rfl hl.1 rfl (lv_room (Nat.le_of_ble_eq_true rfl)) dX1_hasReference_7 ⟨Nat.zero_le _, Nat.zero_le _⟩) hP (hD.addr rfl) hS hA rfl rfl rfl (fun H locs (hP : va_P D vwCl [(a_t, .inr (0, [.ref a_t_sizes, .ref a_t_cites, .int v_t_notes, .int v_t_version])), (a_t_sizes, .inl (cI, 8, .inl r_t_sizes))] H) _ hS => ?_)
    refine lv_icmp_ge (tgt := 17) hx hb dX1_hasReference_10 (by decide) (fun c3 => ?_) (fun c3 => ?_)
    · have hf := pn_ifp c3 hf
      refine lv_iconst (v := (0)) hx hb dX1_hasReference_17 (by decide) ?_
      cases hf
      rw [hQ]
      exact pn_retz hx hb hr hlocks hP hS rfl rfl dX1_hasReference_18
    · have hf := pn_ifn c3 hf
      refine lv_iconst (v := (1)) hx hb dX1_hasReference_13 (by decide) ?_
      refine lv_goto (tgt := 18) hx hb dX1_hasReference_14 (by decide) ?_
      cases hf
      rw [hQ]
      exact pn_retz hx hb hr hlocks hP hS rfl rfl dX1_hasReference_18
def f_X1_hasSlot (v_t_notes : Int32) (r_t_sizes : Nat → Int32) (p1 : Int32) : Option (Int32) :=
  if p1 < 0 then
  some (0 : Int32)
  else
  pn_bd1 (f_X1_size v_t_notes r_t_sizes (p1 / (4 : Int32))) fun ru2 =>
  if ru2 ≤ (p1 - p1 / (4 : Int32) * (4 : Int32)) then
  some (0 : Int32)
  else
  some (1 : Int32)
set_option maxHeartbeats 4000000 in
set_option maxRecDepth 100000 in
theorem c_X1_hasSlot (l : Launch) (D : va_G) (cI cJ cZ : ClassId) (a_t a_t_sizes a_t_cites : Nat) (sz : Nat) (v_t_version : Int32) (v_t_notes : Int32) (r_t_sizes : Nat → Int32) (p1 : Int32) (rR : Int32) (hf : f_X1_hasSlot v_t_notes r_t_sizes p1 = some rR) : Met l yX1_hasSlot wsX1_hasSlot { frames := 1, cells := 0, slots := 0, locals := 21 } (pn_Pc D cI cJ cZ [.ref a_t, .int p1] [(a_t, .inr (0, [.ref a_t_sizes, .ref a_t_cites, .int v_t_notes, .int v_t_version])), (a_t_sizes, .inl (cI, 8, .inl r_t_sizes))] sz) (pn_Qi D rR [(a_t, .inr (0, [.ref a_t_sizes, .ref a_t_cites, .int v_t_notes, .int v_t_version])), (a_t_sizes, .inl (cI, 8, .inl r_t_sizes))] (va_A [(a_t, .inr (0, [.ref a_t_sizes, .ref a_t_cites, .int v_t_notes, .int v_t_version])), (a_t_sizes, .inl (cI, 8, .inl r_t_sizes))] sz)) 0 0 (va_A [(a_t, .inr (0, [.ref a_t_sizes, .ref a_t_cites, .int v_t_notes, .int v_t_version])), (a_t_sizes, .inl (cI, 8, .inl r_t_sizes))] sz) := by
  refine pn_entry (cc := cX1_hasSlot) (maxL := 2) (ret := (some .boolean)) (Qf := pn_Qi D rR [(a_t, .inr (0, [.ref a_t_sizes, .ref a_t_cites, .int v_t_notes, .int v_t_version])), (a_t_sizes, .inl (cI, 8, .inl r_t_sizes))]) (by decide) rfl (Nat.le_of_ble_eq_true rfl) ?_
  intro p e s m args below meth c A ls H locs Qm hQ hx hb hr hlocks hml hown hts hK hP hD hA hS hl
  have hl : lv_has ls 2 [(0, .ref a_t), (1, .int p1)] := hl
  rw [f_X1_hasSlot] at hf
  refine lv_iload_n hx hb dX1_hasSlot_0 rfl (lv_at hl 1 rfl) ?_
  refine lv_if_lt (tgt := 21) hx hb dX1_hasSlot_1 (by decide) (fun c1 => ?_) (fun c1 => ?_)
  · have hf := pn_ifp c1 hf
    refine lv_iconst (v := (0)) hx hb dX1_hasSlot_21 (by decide) ?_
    cases hf
    rw [hQ]
    exact pn_retz hx hb hr hlocks hP hS rfl rfl dX1_hasSlot_22
  · have hf := pn_ifn c1 hf
    refine lv_iload_n hx hb dX1_hasSlot_4 rfl (lv_at hl 1 rfl) ?_
    refine lv_iconst (v := (4)) hx hb dX1_hasSlot_5 (by decide) ?_
    refine lv_irem hx hb dX1_hasSlot_6 (by decide) ?_
    refine lv_aload_n hx hb dX1_hasSlot_7 rfl (lv_at hl 0 rfl) ?_
    refine lv_iload_n hx hb dX1_hasSlot_8 rfl (lv_at hl 1 rfl) ?_
    refine lv_iconst (v := (4)) hx hb dX1_hasSlot_9 (by decide) ?_
    refine lv_idiv hx hb dX1_hasSlot_10 (by decide) ?_
    obtain ⟨ru2, hu2, hf⟩ := pn_bd1_at hf
    refine pn_calli [0, 1] (va_runV (As := [.int (p1 / (4 : Int32))]) (rest := [.int (p1 - p1 / (4 : Int32) * (4 : Int32))]) ⟨hx, hb, hml, hown, hts⟩ (c_X1_size l D cI cJ cZ a_t a_t_sizes a_t_cites H.size v_t_version v_t_notes r_t_sizes (p1 / (4 : Int32)) ru2 hu2) (cwV 1 hts gX1_hasSlot_X1_size rfl rfl rfl hdX1_size ⟨Nat.le_of_ble_eq_true rfl, Nat.le_of_ble_eq_true rfl⟩) (pn_preV [0, 1] hP (hD.addr rfl) hK rfl rfl (q0 := 0) (ci := 0) rfl rfl) rfl rfl hl.1 rfl (lv_room (Nat.le_of_ble_eq_true rfl)) dX1_hasSlot_11 ⟨Nat.zero_le _, Nat.zero_le _⟩) hP (hD.addr rfl) hS hA rfl rfl rfl (fun H locs (hP : va_P D vwCl [(a_t, .inr (0, [.ref a_t_sizes, .ref a_t_cites, .int v_t_notes, .int v_t_version])), (a_t_sizes, .inl (cI, 8, .inl r_t_sizes))] H) _ hS => ?_)
    refine lv_icmp_ge (tgt := 21) hx hb dX1_hasSlot_14 (by decide) (fun c3 => ?_) (fun c3 => ?_)
    · have hf := pn_ifp c3 hf
      refine lv_iconst (v := (0)) hx hb dX1_hasSlot_21 (by decide) ?_
      cases hf
      rw [hQ]
      exact pn_retz hx hb hr hlocks hP hS rfl rfl dX1_hasSlot_22
    · have hf := pn_ifn c3 hf
      refine lv_iconst (v := (1)) hx hb dX1_hasSlot_17 (by decide) ?_
      refine lv_goto (tgt := 22) hx hb dX1_hasSlot_18 (by decide) ?_
      cases hf
      rw [hQ]
      exact pn_retz hx hb hr hlocks hP hS rfl rfl dX1_hasSlot_22
def f_X1_cite (r_t_cites : Nat → Int64) (p1 : Int32) : Option (Int64) :=
  if p1 < 0 then
  some (0 : Int64)
  else
  if (32 : Int32) ≤ p1 then
  some (0 : Int64)
  else
  pn_rd 32 r_t_cites p1 fun w3 =>
  some w3
set_option maxHeartbeats 4000000 in
set_option maxRecDepth 100000 in
theorem c_X1_cite (l : Launch) (D : va_G) (cI cJ cZ : ClassId) (a_t a_t_sizes a_t_cites : Nat) (sz : Nat) (v_t_notes : Int32) (v_t_version : Int32) (r_t_cites : Nat → Int64) (p1 : Int32) (rR : Int64) (hf : f_X1_cite r_t_cites p1 = some rR) : Met l yX1_cite wsX1_cite { frames := 0, cells := 0, slots := 0, locals := 0 } (pn_Pc D cI cJ cZ [.ref a_t, .int p1] [(a_t, .inr (0, [.ref a_t_sizes, .ref a_t_cites, .int v_t_notes, .int v_t_version])), (a_t_cites, .inl (cJ, 32, .inr (.inl r_t_cites)))] sz) (pn_Ql D rR [(a_t, .inr (0, [.ref a_t_sizes, .ref a_t_cites, .int v_t_notes, .int v_t_version])), (a_t_cites, .inl (cJ, 32, .inr (.inl r_t_cites)))] (va_A [(a_t, .inr (0, [.ref a_t_sizes, .ref a_t_cites, .int v_t_notes, .int v_t_version])), (a_t_cites, .inl (cJ, 32, .inr (.inl r_t_cites)))] sz)) 0 0 (va_A [(a_t, .inr (0, [.ref a_t_sizes, .ref a_t_cites, .int v_t_notes, .int v_t_version])), (a_t_cites, .inl (cJ, 32, .inr (.inl r_t_cites)))] sz) := by
  refine pn_entry (cc := cX1_cite) (maxL := 2) (ret := (some .long)) (Qf := pn_Ql D rR [(a_t, .inr (0, [.ref a_t_sizes, .ref a_t_cites, .int v_t_notes, .int v_t_version])), (a_t_cites, .inl (cJ, 32, .inr (.inl r_t_cites)))]) (by decide) rfl (Nat.le_of_ble_eq_true rfl) ?_
  intro p e s m args below meth c A ls H locs Qm hQ hx hb hr hlocks hml hown hts hK hP hD hA hS hl
  have hl : lv_has ls 2 [(0, .ref a_t), (1, .int p1)] := hl
  have hinX1 : ∀ w ∈ wsX10, w ∈ wsX1_cite := by decide +kernel
  have fl_15 := hts (.fieldLink RX1 15 "PointingNotes$Paper" "cites" "[J") (by decide +kernel)
  rw [f_X1_cite] at hf
  refine lv_iload_n hx hb dX1_cite_0 rfl (lv_at hl 1 rfl) ?_
  refine lv_if_lt (tgt := 19) hx hb dX1_cite_1 (by decide) (fun c1 => ?_) (fun c1 => ?_)
  · have hf := pn_ifp c1 hf
    refine lv_lconst (v := 0) hx hb dX1_cite_19 (by decide) ?_
    cases hf
    rw [hQ]
    exact pn_retl hx hb hr hlocks hP hS rfl dX1_cite_20
  · have hf := pn_ifn c1 hf
    refine lv_iload_n hx hb dX1_cite_4 rfl (lv_at hl 1 rfl) ?_
    refine lv_bipush (v := (32)) hx hb dX1_cite_5 (by decide) ?_
    refine lv_icmp_ge (tgt := 19) hx hb dX1_cite_7 (by decide) (fun c2 => ?_) (fun c2 => ?_)
    · have hf := pn_ifp c2 hf
      refine lv_lconst (v := 0) hx hb dX1_cite_19 (by decide) ?_
      cases hf
      rw [hQ]
      exact pn_retl hx hb hr hlocks hP hS rfl dX1_cite_20
    · have hf := pn_ifn c2 hf
      refine lv_aload_n hx hb dX1_cite_10 rfl (lv_at hl 0 rfl) ?_
      refine va_get (D := D) (ci := 0) (v := .ref a_t_cites) (C := RX1) (T := TX1) (N := 4) hx hb hts hinX1 hown hK.1 hP 0 rfl rfl 1 (by decide) fl_15 (fun _ h9 => h9) rfl dX1_cite_11 ?_
      refine lv_iload_n hx hb dX1_cite_14 rfl (lv_at hl 1 rfl) ?_
      obtain ⟨hi4, w3, ew3, hf⟩ := pn_rd_at hf
      refine pn_ldJ hx hb hK.1 hP 1 1 rfl rfl hi4 ew3 dX1_cite_15 ?_
      refine lv_goto (tgt := 20) hx hb dX1_cite_16 (by decide) ?_
      cases hf
      rw [hQ]
      exact pn_retl hx hb hr hlocks hP hS rfl dX1_cite_20
def lp_X1_fullSlots_14 (v_t_notes : Int32) (r_t_cites : Nat → Int64) (r_t_sizes : Nat → Int32) (x2 : Int32) : Nat → Int32 → Int32 → Option (Int32)
  | 0, _, _ => none
  | n + 1, x1, x3 =>
    pn_bd1 (f_X1_size v_t_notes r_t_sizes x2) fun ru1 =>
  if ru1 ≤ x3 then
  some x1
  else
  pn_bd1 (f_X1_slotOf x2 x3) fun ru3 =>
  pn_bd1 (f_X1_cite r_t_cites ru3) fun ru4 =>
  pn_bd1 (f_X0_form ru4) fun ru5 =>
  if ¬ ru5 = 0 then
  pn_nm (x3 + (1 : Int32)) fun z7 =>
  lp_X1_fullSlots_14 v_t_notes r_t_cites r_t_sizes x2 n x1 z7
  else
  pn_nm (x1 ||| ((1 : Int32) <<< (ru3 &&& 31))) fun z8 =>
  pn_nm (x3 + (1 : Int32)) fun z9 =>
  lp_X1_fullSlots_14 v_t_notes r_t_cites r_t_sizes x2 n z8 z9
def lp_X1_fullSlots_4 (N : Nat) (v_t_notes : Int32) (r_t_cites : Nat → Int64) (r_t_sizes : Nat → Int32) : Nat → Int32 → Int32 → Option (Int32)
  | 0, _, _ => none
  | n + 1, x1, x2 =>
    if v_t_notes ≤ x2 then
  some x1
  else
  pn_bd1 (lp_X1_fullSlots_14 v_t_notes r_t_cites r_t_sizes x2 N x1 (0 : Int32)) (fun X14 => (pn_u1 fun x1_w11 => pn_nm (x2 + (1 : Int32)) fun z12 =>
  lp_X1_fullSlots_4 N v_t_notes r_t_cites r_t_sizes n x1_w11 z12) X14)
def f_X1_fullSlots (N : Nat) (v_t_notes : Int32) (r_t_cites : Nat → Int64) (r_t_sizes : Nat → Int32) : Option (Int32) :=
  pn_bd1 (lp_X1_fullSlots_4 N v_t_notes r_t_cites r_t_sizes N (0 : Int32) (0 : Int32)) (fun X4 => (pn_u1 fun x1_w13 => some x1_w13) X4)
set_option maxHeartbeats 4000000 in
set_option maxRecDepth 100000 in
theorem c_X1_fullSlots (l : Launch) (D : va_G) (cI cJ cZ : ClassId) (a_t a_t_sizes a_t_cites : Nat) (sz : Nat) (v_t_version : Int32) (N : Nat) (v_t_notes : Int32) (r_t_cites : Nat → Int64) (r_t_sizes : Nat → Int32) (rR : Int32) (hf : f_X1_fullSlots N v_t_notes r_t_cites r_t_sizes = some rR) : Met l yX1_fullSlots wsX1_fullSlots { frames := 1, cells := 0, slots := 0, locals := 21 } (pn_Pc D cI cJ cZ [.ref a_t] [(a_t, .inr (0, [.ref a_t_sizes, .ref a_t_cites, .int v_t_notes, .int v_t_version])), (a_t_cites, .inl (cJ, 32, .inr (.inl r_t_cites))), (a_t_sizes, .inl (cI, 8, .inl r_t_sizes))] sz) (pn_Qi D rR [(a_t, .inr (0, [.ref a_t_sizes, .ref a_t_cites, .int v_t_notes, .int v_t_version])), (a_t_cites, .inl (cJ, 32, .inr (.inl r_t_cites))), (a_t_sizes, .inl (cI, 8, .inl r_t_sizes))] (va_A [(a_t, .inr (0, [.ref a_t_sizes, .ref a_t_cites, .int v_t_notes, .int v_t_version])), (a_t_cites, .inl (cJ, 32, .inr (.inl r_t_cites))), (a_t_sizes, .inl (cI, 8, .inl r_t_sizes))] sz)) 0 0 (va_A [(a_t, .inr (0, [.ref a_t_sizes, .ref a_t_cites, .int v_t_notes, .int v_t_version])), (a_t_cites, .inl (cJ, 32, .inr (.inl r_t_cites))), (a_t_sizes, .inl (cI, 8, .inl r_t_sizes))] sz) := by
  refine pn_entry (cc := cX1_fullSlots) (maxL := 5) (ret := (some .int)) (Qf := pn_Qi D rR [(a_t, .inr (0, [.ref a_t_sizes, .ref a_t_cites, .int v_t_notes, .int v_t_version])), (a_t_cites, .inl (cJ, 32, .inr (.inl r_t_cites))), (a_t_sizes, .inl (cI, 8, .inl r_t_sizes))]) (by decide) rfl (Nat.le_of_ble_eq_true rfl) ?_
  intro p e s m args below meth c A ls H locs Qm hQ hx hb hr hlocks hml hown hts hK hP hD hA hS hl
  have hl : lv_has ls 5 [(0, .ref a_t)] := hl
  have hinX1 : ∀ w ∈ wsX10, w ∈ wsX1_fullSlots := by decide +kernel
  have fl_19 := hts (.fieldLink RX1 19 "PointingNotes$Paper" "notes" "I") (by decide +kernel)
  rw [f_X1_fullSlots] at hf
  have lp14 : ∀ (n : Nat) (x1 : Int32) (x2 : Int32) (x3 : Int32) (X : Int32) (H : Heap) (locs : List Loc) (ls : Array Slot), lp_X1_fullSlots_14 v_t_notes r_t_cites r_t_sizes x2 n x1 x3 = some X → va_P D vwCl [(a_t, .inr (0, [.ref a_t_sizes, .ref a_t_cites, .int v_t_notes, .int v_t_version])), (a_t_cites, .inl (cJ, 32, .inr (.inl r_t_cites))), (a_t_sizes, .inl (cI, 8, .inl r_t_sizes))] H → va_S A s.heap H locs → lv_has ls 5 [(0, .ref a_t), (1, .int x1), (2, .int x2), (3, .int x3)] → (∀ (y1 : Int32)  (H : Heap) (locs : List Loc) (ls : Array Slot), X = y1 → va_P D vwCl [(a_t, .inr (0, [.ref a_t_sizes, .ref a_t_cites, .int v_t_notes, .int v_t_version])), (a_t_cites, .inl (cJ, 32, .inr (.inl r_t_cites))), (a_t_sizes, .inl (cI, 8, .inl r_t_sizes))] H → va_S A s.heap H locs → lv_has ls 5 [(0, .ref a_t), (1, .int y1), (2, .int x2)] → W p l e { frames := 1, cells := 0, slots := 0, locals := 21 } s m args below meth c H locs 0 0 Qm (F0 m 55 ls [])) → W p l e { frames := 1, cells := 0, slots := 0, locals := 21 } s m args below meth c H locs 0 0 Qm (F0 m 14 ls []) := by
    intro n
    induction n with
    | zero => intro x1 x2 x3 X H locs ls hf; cases hf
    | succ n ih =>
      intro x1 x2 x3 X H locs ls hf hP hS hl kx55
      rw [lp_X1_fullSlots_14] at hf
      refine lv_iload_n hx hb dX1_fullSlots_14 rfl (lv_at hl 3 rfl) ?_
      refine lv_aload_n hx hb dX1_fullSlots_15 rfl (lv_at hl 0 rfl) ?_
      refine lv_iload_n hx hb dX1_fullSlots_16 rfl (lv_at hl 2 rfl) ?_
      obtain ⟨ru1, hu1, hf⟩ := pn_bd1_at hf
      refine pn_calli [0, 2] (va_runV (As := [.int x2]) (rest := [.int x3]) ⟨hx, hb, hml, hown, hts⟩ (c_X1_size l D cI cJ cZ a_t a_t_sizes a_t_cites H.size v_t_version v_t_notes r_t_sizes x2 ru1 hu1) (cwV 1 hts gX1_fullSlots_X1_size rfl rfl rfl hdX1_size ⟨Nat.le_of_ble_eq_true rfl, Nat.le_of_ble_eq_true rfl⟩) (pn_preV [0, 2] hP (hD.addr rfl) hK rfl rfl (q0 := 0) (ci := 0) rfl rfl) rfl rfl hl.1 rfl (lv_room (Nat.le_of_ble_eq_true rfl)) dX1_fullSlots_17 ⟨Nat.zero_le _, Nat.zero_le _⟩) hP (hD.addr rfl) hS hA rfl rfl rfl (fun H locs (hP : va_P D vwCl [(a_t, .inr (0, [.ref a_t_sizes, .ref a_t_cites, .int v_t_notes, .int v_t_version])), (a_t_cites, .inl (cJ, 32, .inr (.inl r_t_cites))), (a_t_sizes, .inl (cI, 8, .inl r_t_sizes))] H) _ hS => ?_)
      refine lv_icmp_ge (tgt := 55) hx hb dX1_fullSlots_20 (by decide) (fun c2 => ?_) (fun c2 => ?_)
      · have hf := pn_ifp c2 hf
        exact kx55 x1 H locs ls (Option.some.inj hf).symm hP hS (lv_sub hl [0, 1, 2] rfl)
      · have hf := pn_ifn c2 hf
        refine lv_iload_n hx hb dX1_fullSlots_23 rfl (lv_at hl 2 rfl) ?_
        refine lv_iload_n hx hb dX1_fullSlots_24 rfl (lv_at hl 3 rfl) ?_
        obtain ⟨ru3, hu3, hf⟩ := pn_bd1_at hf
        refine pn_calli [] (va_runS (As := [.int x2, .int x3]) (rest := []) ⟨hx, hb, hml, hown, hts⟩ (c_X1_slotOf l D cI cJ cZ H.size x2 x3 ru3 hu3) (va_cwS 2 hts gX1_fullSlots_X1_slotOf rfl rfl rfl hdX1_slotOf ⟨Nat.le_of_ble_eq_true rfl, Nat.le_of_ble_eq_true rfl⟩) (pn_preS [] hP (hD.addr rfl) hK rfl rfl) rfl rfl hl.1 rfl (lv_room (Nat.le_of_ble_eq_true rfl)) dX1_fullSlots_25 ⟨Nat.zero_le _, Nat.zero_le _⟩) hP (hD.addr rfl) hS hA rfl rfl rfl (fun H locs (hP : va_P D vwCl [(a_t, .inr (0, [.ref a_t_sizes, .ref a_t_cites, .int v_t_notes, .int v_t_version])), (a_t_cites, .inl (cJ, 32, .inr (.inl r_t_cites))), (a_t_sizes, .inl (cI, 8, .inl r_t_sizes))] H) _ hS => ?_)
        refine lv_istore (lv' := [(4, .int ru3), (0, .ref a_t), (1, .int x1), (2, .int x2), (3, .int x3)]) hx hb dX1_fullSlots_28 hl (by decide) rfl (fun ls hl => ?_)
        refine lv_aload_n hx hb dX1_fullSlots_30 rfl (lv_at hl 1 rfl) ?_
        refine lv_iload hx hb dX1_fullSlots_31 (lv_at hl 0 rfl) ?_
        obtain ⟨ru4, hu4, hf⟩ := pn_bd1_at hf
        refine pn_calll [0, 1] (va_runV (As := [.int ru3]) (rest := []) ⟨hx, hb, hml, hown, hts⟩ (c_X1_cite l D cI cJ cZ a_t a_t_sizes a_t_cites H.size v_t_notes v_t_version r_t_cites ru3 ru4 hu4) (cwV 1 hts gX1_fullSlots_X1_cite rfl rfl rfl hdX1_cite ⟨Nat.le_of_ble_eq_true rfl, Nat.le_of_ble_eq_true rfl⟩) (pn_preV [0, 1] hP (hD.addr rfl) hK rfl rfl (q0 := 0) (ci := 0) rfl rfl) rfl rfl hl.1 rfl (lv_room (Nat.le_of_ble_eq_true rfl)) dX1_fullSlots_33 ⟨Nat.zero_le _, Nat.zero_le _⟩) hP (hD.addr rfl) hS hA rfl rfl rfl (fun H locs (hP : va_P D vwCl [(a_t, .inr (0, [.ref a_t_sizes, .ref a_t_cites, .int v_t_notes, .int v_t_version])), (a_t_cites, .inl (cJ, 32, .inr (.inl r_t_cites))), (a_t_sizes, .inl (cI, 8, .inl r_t_sizes))] H) _ hS => ?_)
        obtain ⟨ru5, hu5, hf⟩ := pn_bd1_at hf
        refine pn_calli [] (va_runS (As := [.long ru4]) (rest := []) ⟨hx, hb, hml, hown, hts⟩ (c_X0_form l D cI cJ cZ H.size ru4 ru5 hu5) (va_cwS 1 hts gX1_fullSlots_X0_form rfl rfl rfl hdX0_form ⟨Nat.le_of_ble_eq_true rfl, Nat.le_of_ble_eq_true rfl⟩) (pn_preS [] hP (hD.addr rfl) hK rfl rfl) rfl rfl hl.1 rfl (lv_room (Nat.le_of_ble_eq_true rfl)) dX1_fullSlots_36 ⟨Nat.zero_le _, Nat.zero_le _⟩) hP (hD.addr rfl) hS hA rfl rfl rfl (fun H locs (hP : va_P D vwCl [(a_t, .inr (0, [.ref a_t_sizes, .ref a_t_cites, .int v_t_notes, .int v_t_version])), (a_t_cites, .inl (cJ, 32, .inr (.inl r_t_cites))), (a_t_sizes, .inl (cI, 8, .inl r_t_sizes))] H) _ hS => ?_)
        refine lv_if_ne (tgt := 49) hx hb dX1_fullSlots_39 (by decide) (fun c6 => ?_) (fun c6 => ?_)
        · have hf := pn_ifp c6 hf
          obtain ⟨z7, ez7⟩ : ∃ y : Int32, y = x3 + (1) := ⟨_, rfl⟩
          have hf := pn_nm_at ez7 hf
          refine lv_iinc (v := z7) (lv' := [(3, .int z7), (4, .int ru3), (0, .ref a_t), (1, .int x1), (2, .int x2)]) hx hb dX1_fullSlots_49 hl (k := 4) rfl (by rw [ez7]; rfl) (by decide) rfl (fun ls hl => ?_)
          refine lv_goto (tgt := 14) hx hb dX1_fullSlots_52 (by decide) ?_
          exact ih x1 x2 z7 X H locs ls hf hP hS (lv_sub hl [2, 3, 4, 0] rfl) kx55
        · have hf := pn_ifq c6 hf
          refine lv_iload_n hx hb dX1_fullSlots_42 rfl (lv_at hl 2 rfl) ?_
          refine lv_iconst (v := (1)) hx hb dX1_fullSlots_43 (by decide) ?_
          refine lv_iload hx hb dX1_fullSlots_44 (lv_at hl 0 rfl) ?_
          refine lv_ishl hx hb dX1_fullSlots_46 ?_
          refine lv_ior hx hb dX1_fullSlots_47 ?_
          refine lv_topi (fun z8 ez8 => ?_)
          have hf := pn_nm_at ez8 hf
          refine lv_istore_n (lv' := [(1, .int z8), (4, .int ru3), (0, .ref a_t), (2, .int x2), (3, .int x3)]) hx hb dX1_fullSlots_48 rfl hl (by decide) rfl (fun ls hl => ?_)
          obtain ⟨z9, ez9⟩ : ∃ y : Int32, y = x3 + (1) := ⟨_, rfl⟩
          have hf := pn_nm_at ez9 hf
          refine lv_iinc (v := z9) (lv' := [(3, .int z9), (1, .int z8), (4, .int ru3), (0, .ref a_t), (2, .int x2)]) hx hb dX1_fullSlots_49 hl (k := 4) rfl (by rw [ez9]; rfl) (by decide) rfl (fun ls hl => ?_)
          refine lv_goto (tgt := 14) hx hb dX1_fullSlots_52 (by decide) ?_
          exact ih z8 x2 z9 X H locs ls hf hP hS (lv_sub hl [3, 1, 4, 0] rfl) kx55
  have lp4 : ∀ (n : Nat) (x1 : Int32) (x2 : Int32) (X : Int32) (H : Heap) (locs : List Loc) (ls : Array Slot), lp_X1_fullSlots_4 N v_t_notes r_t_cites r_t_sizes n x1 x2 = some X → va_P D vwCl [(a_t, .inr (0, [.ref a_t_sizes, .ref a_t_cites, .int v_t_notes, .int v_t_version])), (a_t_cites, .inl (cJ, 32, .inr (.inl r_t_cites))), (a_t_sizes, .inl (cI, 8, .inl r_t_sizes))] H → va_S A s.heap H locs → lv_has ls 5 [(0, .ref a_t), (1, .int x1), (2, .int x2)] → (∀ (y1 : Int32)  (H : Heap) (locs : List Loc) (ls : Array Slot), X = y1 → va_P D vwCl [(a_t, .inr (0, [.ref a_t_sizes, .ref a_t_cites, .int v_t_notes, .int v_t_version])), (a_t_cites, .inl (cJ, 32, .inr (.inl r_t_cites))), (a_t_sizes, .inl (cI, 8, .inl r_t_sizes))] H → va_S A s.heap H locs → lv_has ls 5 [(1, .int y1)] → W p l e { frames := 1, cells := 0, slots := 0, locals := 21 } s m args below meth c H locs 0 0 Qm (F0 m 61 ls [])) → W p l e { frames := 1, cells := 0, slots := 0, locals := 21 } s m args below meth c H locs 0 0 Qm (F0 m 4 ls []) := by
    intro n
    induction n with
    | zero => intro x1 x2 X H locs ls hf; cases hf
    | succ n ih =>
      intro x1 x2 X H locs ls hf hP hS hl kx61
      rw [lp_X1_fullSlots_4] at hf
      refine lv_iload_n hx hb dX1_fullSlots_4 rfl (lv_at hl 2 rfl) ?_
      refine lv_aload_n hx hb dX1_fullSlots_5 rfl (lv_at hl 0 rfl) ?_
      refine va_get (D := D) (ci := 0) (v := .int v_t_notes) (C := RX1) (T := TX1) (N := 4) hx hb hts hinX1 hown hK.1 hP 0 rfl rfl 2 (by decide) fl_19 (fun _ h9 => h9) rfl dX1_fullSlots_6 ?_
      refine lv_icmp_ge (tgt := 61) hx hb dX1_fullSlots_9 (by decide) (fun c10 => ?_) (fun c10 => ?_)
      · have hf := pn_ifp c10 hf
        exact kx61 x1 H locs ls (Option.some.inj hf).symm hP hS (lv_sub hl [1] rfl)
      · have hf := pn_ifn c10 hf
        refine lv_iconst (v := (0)) hx hb dX1_fullSlots_12 (by decide) ?_
        refine lv_istore_n (lv' := [(3, .int (0 : Int32)), (0, .ref a_t), (1, .int x1), (2, .int x2)]) hx hb dX1_fullSlots_13 rfl hl (by decide) rfl (fun ls hl => ?_)
        obtain ⟨X14, hX14, hf⟩ := pn_bd1_at hf
        refine lp14 N x1 x2 (0 : Int32) X14 H locs ls hX14 hP hS (lv_sub hl [1, 2, 3, 0] rfl) ?_
        · intro x1_w11 H locs ls eX hP hS hl
          rw [eX] at hf
          have hf := pn_u1_at hf
          obtain ⟨z12, ez12⟩ : ∃ y : Int32, y = x2 + (1) := ⟨_, rfl⟩
          have hf := pn_nm_at ez12 hf
          refine lv_iinc (v := z12) (lv' := [(2, .int z12), (0, .ref a_t), (1, .int x1_w11)]) hx hb dX1_fullSlots_55 hl (k := 2) rfl (by rw [ez12]; rfl) (by decide) rfl (fun ls hl => ?_)
          refine lv_goto (tgt := 4) hx hb dX1_fullSlots_58 (by decide) ?_
          exact ih x1_w11 z12 X H locs ls hf hP hS (lv_sub hl [1, 2, 0] rfl) kx61
  refine lv_iconst (v := (0)) hx hb dX1_fullSlots_0 (by decide) ?_
  refine lv_istore_n (lv' := [(1, .int (0 : Int32)), (0, .ref a_t)]) hx hb dX1_fullSlots_1 rfl hl (by decide) rfl (fun ls hl => ?_)
  refine lv_iconst (v := (0)) hx hb dX1_fullSlots_2 (by decide) ?_
  refine lv_istore_n (lv' := [(2, .int (0 : Int32)), (1, .int (0 : Int32)), (0, .ref a_t)]) hx hb dX1_fullSlots_3 rfl hl (by decide) rfl (fun ls hl => ?_)
  obtain ⟨X4, hX4, hf⟩ := pn_bd1_at hf
  refine lp4 N (0 : Int32) (0 : Int32) X4 H locs ls hX4 hP hS (lv_sub hl [2, 1, 0] rfl) ?_
  · intro x1_w13 H locs ls eX hP hS hl
    rw [eX] at hf
    have hf := pn_u1_at hf
    refine lv_iload_n hx hb dX1_fullSlots_61 rfl (lv_at hl 0 rfl) ?_
    cases hf
    rw [hQ]
    exact pn_reti hx hb hr hlocks hP hS rfl dX1_fullSlots_62
def f_X1_clear (v_t_notes : Int32) (v_t_version : Int32) : Option (Int32 × Int32) :=
  pn_nm (v_t_version + (1 : Int32)) fun z1 =>
  some ((0 : Int32), z1)
set_option maxHeartbeats 4000000 in
set_option maxRecDepth 100000 in
theorem c_X1_clear (l : Launch) (D : va_G) (cI cJ cZ : ClassId) (a_t a_t_sizes a_t_cites : Nat) (sz : Nat) (v_t_notes : Int32) (v_t_version : Int32) (o_t_notes : Int32) (o_t_version : Int32) (hf : f_X1_clear v_t_notes v_t_version = some (o_t_notes, o_t_version)) : Met l yX1_clear wsX1_clear { frames := 0, cells := 0, slots := 0, locals := 0 } (pn_Pc D cI cJ cZ [.ref a_t] [(a_t, .inr (0, [.ref a_t_sizes, .ref a_t_cites, .int v_t_notes, .int v_t_version]))] sz) (pn_Qv D [(a_t, .inr (0, [.ref a_t_sizes, .ref a_t_cites, .int o_t_notes, .int o_t_version]))] (va_A [(a_t, .inr (0, [.ref a_t_sizes, .ref a_t_cites, .int v_t_notes, .int v_t_version]))] sz)) 0 0 (va_A [(a_t, .inr (0, [.ref a_t_sizes, .ref a_t_cites, .int v_t_notes, .int v_t_version]))] sz) := by
  refine pn_entry (cc := cX1_clear) (maxL := 1) (ret := none) (Qf := pn_Qv D [(a_t, .inr (0, [.ref a_t_sizes, .ref a_t_cites, .int o_t_notes, .int o_t_version]))]) (by decide) rfl (Nat.le_of_ble_eq_true rfl) ?_
  intro p e s m args below meth c A ls H locs Qm hQ hx hb hr hlocks hml hown hts hK hP hD hA hS hl
  have hl : lv_has ls 1 [(0, .ref a_t)] := hl
  have hinX1 : ∀ w ∈ wsX10, w ∈ wsX1_clear := by decide +kernel
  have fl_19 := hts (.fieldLink RX1 19 "PointingNotes$Paper" "notes" "I") (by decide +kernel)
  have fl_23 := hts (.fieldLink RX1 23 "PointingNotes$Paper" "version" "I") (by decide +kernel)
  rw [f_X1_clear] at hf
  refine lv_aload_n hx hb dX1_clear_0 rfl (lv_at hl 0 rfl) ?_
  refine lv_dup hx hb dX1_clear_1 rfl ?_
  refine va_get (D := D) (ci := 0) (v := .int v_t_version) (C := RX1) (T := TX1) (N := 4) hx hb hts hinX1 hown hK.1 hP 0 rfl rfl 3 (by decide) fl_23 (fun _ h9 => h9) rfl dX1_clear_2 ?_
  refine lv_iconst (v := (1)) hx hb dX1_clear_5 (by decide) ?_
  refine lv_iadd hx hb dX1_clear_6 ?_
  refine lv_topi (fun z1 ez1 => ?_)
  have hf := pn_nm_at ez1 hf
  refine va_put (D := D) (ci := 0) (v := .int z1) (ty := .int) (C := RX1) (T := TX1) (N := 4) hx hb hts hinX1 tyX1 tyX1_ok nmX1 hown hK.1 hP (hD.addr rfl) hS 0 rfl rfl 3 (by decide) fl_23 (fun _ h9 => h9) rfl (by decide +kernel) rfl rfl (Nat.le_of_ble_eq_true rfl) dX1_clear_7 (fun H locs (hP : va_P D vwCl [(a_t, .inr (0, [.ref a_t_sizes, .ref a_t_cites, .int v_t_notes, .int z1]))] H) _ hS => ?_)
  refine lv_aload_n hx hb dX1_clear_10 rfl (lv_at hl 0 rfl) ?_
  refine lv_iconst (v := (0)) hx hb dX1_clear_11 (by decide) ?_
  refine va_put (D := D) (ci := 0) (v := .int (0 : Int32)) (ty := .int) (C := RX1) (T := TX1) (N := 4) hx hb hts hinX1 tyX1 tyX1_ok nmX1 hown hK.1 hP (hD.addr rfl) hS 0 rfl rfl 2 (by decide) fl_19 (fun _ h9 => h9) rfl (by decide +kernel) rfl rfl (Nat.le_of_ble_eq_true rfl) dX1_clear_12 (fun H locs (hP : va_P D vwCl [(a_t, .inr (0, [.ref a_t_sizes, .ref a_t_cites, .int ((0 : Int32)), .int z1]))] H) _ hS => ?_)
  cases hf
  rw [hQ]
  exact pn_retv hx hb hr hlocks hP hS dX1_clear_15
def f_X1_openNote (v_t_notes : Int32) (v_t_version : Int32) (r_t_sizes : Nat → Int32) : Option (Int32 × Int32 × (Nat → Int32)) :=
  if v_t_notes < (8 : Int32) then
  pn_nm (v_t_version + (1 : Int32)) fun z2 =>
  pn_wrI 8 r_t_sizes v_t_notes (0 : Int32) fun g3 =>
  pn_nm (v_t_notes + (1 : Int32)) fun z5 =>
  some (z5, z2, g3)
  else
  some (v_t_notes, v_t_version, r_t_sizes)
set_option maxHeartbeats 4000000 in
set_option maxRecDepth 100000 in
theorem c_X1_openNote (l : Launch) (D : va_G) (cI cJ cZ : ClassId) (a_t a_t_sizes a_t_cites : Nat) (sz : Nat) (v_t_notes : Int32) (v_t_version : Int32) (r_t_sizes : Nat → Int32) (o_t_notes : Int32) (o_t_version : Int32) (o_t_sizes : Nat → Int32) (hf : f_X1_openNote v_t_notes v_t_version r_t_sizes = some (o_t_notes, o_t_version, o_t_sizes)) : Met l yX1_openNote wsX1_openNote { frames := 0, cells := 0, slots := 0, locals := 0 } (pn_Pc D cI cJ cZ [.ref a_t] [(a_t, .inr (0, [.ref a_t_sizes, .ref a_t_cites, .int v_t_notes, .int v_t_version])), (a_t_sizes, .inl (cI, 8, .inl r_t_sizes))] sz) (pn_Qv D [(a_t, .inr (0, [.ref a_t_sizes, .ref a_t_cites, .int o_t_notes, .int o_t_version])), (a_t_sizes, .inl (cI, 8, .inl o_t_sizes))] (va_A [(a_t, .inr (0, [.ref a_t_sizes, .ref a_t_cites, .int v_t_notes, .int v_t_version])), (a_t_sizes, .inl (cI, 8, .inl r_t_sizes))] sz)) 0 0 (va_A [(a_t, .inr (0, [.ref a_t_sizes, .ref a_t_cites, .int v_t_notes, .int v_t_version])), (a_t_sizes, .inl (cI, 8, .inl r_t_sizes))] sz) := by
  refine pn_entry (cc := cX1_openNote) (maxL := 1) (ret := none) (Qf := pn_Qv D [(a_t, .inr (0, [.ref a_t_sizes, .ref a_t_cites, .int o_t_notes, .int o_t_version])), (a_t_sizes, .inl (cI, 8, .inl o_t_sizes))]) (by decide) rfl (Nat.le_of_ble_eq_true rfl) ?_
  intro p e s m args below meth c A ls H locs Qm hQ hx hb hr hlocks hml hown hts hK hP hD hA hS hl
  have hl : lv_has ls 1 [(0, .ref a_t)] := hl
  have hinX1 : ∀ w ∈ wsX10, w ∈ wsX1_openNote := by decide +kernel
  have fl_9 := hts (.fieldLink RX1 9 "PointingNotes$Paper" "sizes" "[I") (by decide +kernel)
  have fl_19 := hts (.fieldLink RX1 19 "PointingNotes$Paper" "notes" "I") (by decide +kernel)
  have fl_23 := hts (.fieldLink RX1 23 "PointingNotes$Paper" "version" "I") (by decide +kernel)
  rw [f_X1_openNote] at hf
  refine lv_aload_n hx hb dX1_openNote_0 rfl (lv_at hl 0 rfl) ?_
  refine va_get (D := D) (ci := 0) (v := .int v_t_notes) (C := RX1) (T := TX1) (N := 4) hx hb hts hinX1 hown hK.1 hP 0 rfl rfl 2 (by decide) fl_19 (fun _ h9 => h9) rfl dX1_openNote_1 ?_
  refine lv_bipush (v := (8)) hx hb dX1_openNote_4 (by decide) ?_
  refine lv_icmp_lt (tgt := 10) hx hb dX1_openNote_6 (by decide) (fun c1 => ?_) (fun c1 => ?_)
  · have hf := pn_ifp c1 hf
    refine lv_aload_n hx hb dX1_openNote_10 rfl (lv_at hl 0 rfl) ?_
    refine lv_dup hx hb dX1_openNote_11 rfl ?_
    refine va_get (D := D) (ci := 0) (v := .int v_t_version) (C := RX1) (T := TX1) (N := 4) hx hb hts hinX1 hown hK.1 hP 0 rfl rfl 3 (by decide) fl_23 (fun _ h9 => h9) rfl dX1_openNote_12 ?_
    refine lv_iconst (v := (1)) hx hb dX1_openNote_15 (by decide) ?_
    refine lv_iadd hx hb dX1_openNote_16 ?_
    refine lv_topi (fun z2 ez2 => ?_)
    have hf := pn_nm_at ez2 hf
    refine va_put (D := D) (ci := 0) (v := .int z2) (ty := .int) (C := RX1) (T := TX1) (N := 4) hx hb hts hinX1 tyX1 tyX1_ok nmX1 hown hK.1 hP (hD.addr rfl) hS 0 rfl rfl 3 (by decide) fl_23 (fun _ h9 => h9) rfl (by decide +kernel) rfl rfl (Nat.le_of_ble_eq_true rfl) dX1_openNote_17 (fun H locs (hP : va_P D vwCl [(a_t, .inr (0, [.ref a_t_sizes, .ref a_t_cites, .int v_t_notes, .int z2])), (a_t_sizes, .inl (cI, 8, .inl r_t_sizes))] H) _ hS => ?_)
    refine lv_aload_n hx hb dX1_openNote_20 rfl (lv_at hl 0 rfl) ?_
    refine va_get (D := D) (ci := 0) (v := .ref a_t_sizes) (C := RX1) (T := TX1) (N := 4) hx hb hts hinX1 hown hK.1 hP 0 rfl rfl 0 (by decide) fl_9 (fun _ h9 => h9) rfl dX1_openNote_21 ?_
    refine lv_aload_n hx hb dX1_openNote_24 rfl (lv_at hl 0 rfl) ?_
    refine va_get (D := D) (ci := 0) (v := .int v_t_notes) (C := RX1) (T := TX1) (N := 4) hx hb hts hinX1 hown hK.1 hP 0 rfl rfl 2 (by decide) fl_19 (fun _ h9 => h9) rfl dX1_openNote_25 ?_
    refine lv_iconst (v := (0)) hx hb dX1_openNote_28 (by decide) ?_
    obtain ⟨hi4, g3, eg3, hf⟩ := pn_wrI_at hf
    refine pn_stI hx hb hK.1 hP (hD.addr rfl) hS 1 0 rfl rfl hi4 eg3 dX1_openNote_29 (fun H locs (hP : va_P D vwCl [(a_t, .inr (0, [.ref a_t_sizes, .ref a_t_cites, .int v_t_notes, .int z2])), (a_t_sizes, .inl (cI, 8, .inl g3))] H) _ hS => ?_)
    refine lv_aload_n hx hb dX1_openNote_30 rfl (lv_at hl 0 rfl) ?_
    refine lv_dup hx hb dX1_openNote_31 rfl ?_
    refine va_get (D := D) (ci := 0) (v := .int v_t_notes) (C := RX1) (T := TX1) (N := 4) hx hb hts hinX1 hown hK.1 hP 0 rfl rfl 2 (by decide) fl_19 (fun _ h9 => h9) rfl dX1_openNote_32 ?_
    refine lv_iconst (v := (1)) hx hb dX1_openNote_35 (by decide) ?_
    refine lv_iadd hx hb dX1_openNote_36 ?_
    refine lv_topi (fun z5 ez5 => ?_)
    have hf := pn_nm_at ez5 hf
    refine va_put (D := D) (ci := 0) (v := .int z5) (ty := .int) (C := RX1) (T := TX1) (N := 4) hx hb hts hinX1 tyX1 tyX1_ok nmX1 hown hK.1 hP (hD.addr rfl) hS 0 rfl rfl 2 (by decide) fl_19 (fun _ h9 => h9) rfl (by decide +kernel) rfl rfl (Nat.le_of_ble_eq_true rfl) dX1_openNote_37 (fun H locs (hP : va_P D vwCl [(a_t, .inr (0, [.ref a_t_sizes, .ref a_t_cites, .int z5, .int z2])), (a_t_sizes, .inl (cI, 8, .inl g3))] H) _ hS => ?_)
    cases hf
    rw [hQ]
    exact pn_retv hx hb hr hlocks hP hS dX1_openNote_40
  · have hf := pn_ifn c1 hf
    cases hf
    rw [hQ]
    exact pn_retv hx hb hr hlocks hP hS dX1_openNote_9
def f_X1_replaceCite (v_t_version : Int32) (r_t_cites : Nat → Int64) (p1 : Int32) (p2 : Int64) : Option (Int32 × (Nat → Int64)) :=
  if p1 < 0 then
  some (v_t_version, r_t_cites)
  else
  if p1 < (32 : Int32) then
  pn_nm (v_t_version + (1 : Int32)) fun z3 =>
  pn_wrJ 32 r_t_cites p1 p2 fun g4 =>
  some (z3, g4)
  else
  some (v_t_version, r_t_cites)
set_option maxHeartbeats 4000000 in
set_option maxRecDepth 100000 in
theorem c_X1_replaceCite (l : Launch) (D : va_G) (cI cJ cZ : ClassId) (a_t a_t_sizes a_t_cites : Nat) (sz : Nat) (v_t_notes : Int32) (v_t_version : Int32) (r_t_cites : Nat → Int64) (p1 : Int32) (p2 : Int64) (o_t_version : Int32) (o_t_cites : Nat → Int64) (hf : f_X1_replaceCite v_t_version r_t_cites p1 p2 = some (o_t_version, o_t_cites)) : Met l yX1_replaceCite wsX1_replaceCite { frames := 0, cells := 0, slots := 0, locals := 0 } (pn_Pc D cI cJ cZ [.ref a_t, .int p1, .long p2] [(a_t, .inr (0, [.ref a_t_sizes, .ref a_t_cites, .int v_t_notes, .int v_t_version])), (a_t_cites, .inl (cJ, 32, .inr (.inl r_t_cites)))] sz) (pn_Qv D [(a_t, .inr (0, [.ref a_t_sizes, .ref a_t_cites, .int v_t_notes, .int o_t_version])), (a_t_cites, .inl (cJ, 32, .inr (.inl o_t_cites)))] (va_A [(a_t, .inr (0, [.ref a_t_sizes, .ref a_t_cites, .int v_t_notes, .int v_t_version])), (a_t_cites, .inl (cJ, 32, .inr (.inl r_t_cites)))] sz)) 0 0 (va_A [(a_t, .inr (0, [.ref a_t_sizes, .ref a_t_cites, .int v_t_notes, .int v_t_version])), (a_t_cites, .inl (cJ, 32, .inr (.inl r_t_cites)))] sz) := by
  refine pn_entry (cc := cX1_replaceCite) (maxL := 4) (ret := none) (Qf := pn_Qv D [(a_t, .inr (0, [.ref a_t_sizes, .ref a_t_cites, .int v_t_notes, .int o_t_version])), (a_t_cites, .inl (cJ, 32, .inr (.inl o_t_cites)))]) (by decide) rfl (Nat.le_of_ble_eq_true rfl) ?_
  intro p e s m args below meth c A ls H locs Qm hQ hx hb hr hlocks hml hown hts hK hP hD hA hS hl
  have hl : lv_has ls 4 [(0, .ref a_t), (1, .int p1), (2, .long p2)] := hl
  have hinX1 : ∀ w ∈ wsX10, w ∈ wsX1_replaceCite := by decide +kernel
  have fl_15 := hts (.fieldLink RX1 15 "PointingNotes$Paper" "cites" "[J") (by decide +kernel)
  have fl_23 := hts (.fieldLink RX1 23 "PointingNotes$Paper" "version" "I") (by decide +kernel)
  rw [f_X1_replaceCite] at hf
  refine lv_iload_n hx hb dX1_replaceCite_0 rfl (lv_at hl 1 rfl) ?_
  refine lv_if_lt (tgt := 10) hx hb dX1_replaceCite_1 (by decide) (fun c1 => ?_) (fun c1 => ?_)
  · have hf := pn_ifp c1 hf
    cases hf
    rw [hQ]
    exact pn_retv hx hb hr hlocks hP hS dX1_replaceCite_10
  · have hf := pn_ifn c1 hf
    refine lv_iload_n hx hb dX1_replaceCite_4 rfl (lv_at hl 1 rfl) ?_
    refine lv_bipush (v := (32)) hx hb dX1_replaceCite_5 (by decide) ?_
    refine lv_icmp_lt (tgt := 11) hx hb dX1_replaceCite_7 (by decide) (fun c2 => ?_) (fun c2 => ?_)
    · have hf := pn_ifp c2 hf
      refine lv_aload_n hx hb dX1_replaceCite_11 rfl (lv_at hl 0 rfl) ?_
      refine lv_dup hx hb dX1_replaceCite_12 rfl ?_
      refine va_get (D := D) (ci := 0) (v := .int v_t_version) (C := RX1) (T := TX1) (N := 4) hx hb hts hinX1 hown hK.1 hP 0 rfl rfl 3 (by decide) fl_23 (fun _ h9 => h9) rfl dX1_replaceCite_13 ?_
      refine lv_iconst (v := (1)) hx hb dX1_replaceCite_16 (by decide) ?_
      refine lv_iadd hx hb dX1_replaceCite_17 ?_
      refine lv_topi (fun z3 ez3 => ?_)
      have hf := pn_nm_at ez3 hf
      refine va_put (D := D) (ci := 0) (v := .int z3) (ty := .int) (C := RX1) (T := TX1) (N := 4) hx hb hts hinX1 tyX1 tyX1_ok nmX1 hown hK.1 hP (hD.addr rfl) hS 0 rfl rfl 3 (by decide) fl_23 (fun _ h9 => h9) rfl (by decide +kernel) rfl rfl (Nat.le_of_ble_eq_true rfl) dX1_replaceCite_18 (fun H locs (hP : va_P D vwCl [(a_t, .inr (0, [.ref a_t_sizes, .ref a_t_cites, .int v_t_notes, .int z3])), (a_t_cites, .inl (cJ, 32, .inr (.inl r_t_cites)))] H) _ hS => ?_)
      refine lv_aload_n hx hb dX1_replaceCite_21 rfl (lv_at hl 0 rfl) ?_
      refine va_get (D := D) (ci := 0) (v := .ref a_t_cites) (C := RX1) (T := TX1) (N := 4) hx hb hts hinX1 hown hK.1 hP 0 rfl rfl 1 (by decide) fl_15 (fun _ h9 => h9) rfl dX1_replaceCite_22 ?_
      refine lv_iload_n hx hb dX1_replaceCite_25 rfl (lv_at hl 1 rfl) ?_
      refine lv_lload_n hx hb dX1_replaceCite_26 rfl (lv_at hl 2 rfl) ?_
      obtain ⟨hi5, g4, eg4, hf⟩ := pn_wrJ_at hf
      refine pn_stJ hx hb hK.1 hP (hD.addr rfl) hS 1 1 rfl rfl hi5 eg4 dX1_replaceCite_27 (fun H locs (hP : va_P D vwCl [(a_t, .inr (0, [.ref a_t_sizes, .ref a_t_cites, .int v_t_notes, .int z3])), (a_t_cites, .inl (cJ, 32, .inr (.inl g4)))] H) _ hS => ?_)
      cases hf
      rw [hQ]
      exact pn_retv hx hb hr hlocks hP hS dX1_replaceCite_28
    · have hf := pn_ifn c2 hf
      cases hf
      rw [hQ]
      exact pn_retv hx hb hr hlocks hP hS dX1_replaceCite_10
def f_X1_addCite (v_t_notes : Int32) (v_t_version : Int32) (r_t_cites : Nat → Int64) (r_t_sizes : Nat → Int32) (p1 : Int64) : Option (Int32 × (Nat → Int64) × (Nat → Int32)) :=
  pn_nm (v_t_notes - (1 : Int32)) fun z1 =>
  if z1 < 0 then
  some (v_t_version, r_t_cites, r_t_sizes)
  else
  if (8 : Int32) ≤ z1 then
  some (v_t_version, r_t_cites, r_t_sizes)
  else
  pn_rd 8 r_t_sizes z1 fun w4 =>
  if w4 < (4 : Int32) then
  pn_rd 8 r_t_sizes z1 fun w7 =>
  pn_wrI 8 r_t_sizes z1 (w7 + (1 : Int32)) fun g9 =>
  pn_rd 8 g9 z1 fun w11 =>
  pn_bd1 (f_X1_slotOf z1 (w11 - (1 : Int32))) fun ru13 =>
  pn_bd2 (f_X1_replaceCite v_t_version r_t_cites ru13 p1) fun v_t_version_u14 r_t_cites_u14 =>
  some (v_t_version_u14, r_t_cites_u14, g9)
  else
  some (v_t_version, r_t_cites, r_t_sizes)
set_option maxHeartbeats 4000000 in
set_option maxRecDepth 100000 in
theorem c_X1_addCite (l : Launch) (D : va_G) (cI cJ cZ : ClassId) (a_t a_t_sizes a_t_cites : Nat) (sz : Nat) (v_t_notes : Int32) (v_t_version : Int32) (r_t_cites : Nat → Int64) (r_t_sizes : Nat → Int32) (p1 : Int64) (o_t_version : Int32) (o_t_cites : Nat → Int64) (o_t_sizes : Nat → Int32) (hf : f_X1_addCite v_t_notes v_t_version r_t_cites r_t_sizes p1 = some (o_t_version, o_t_cites, o_t_sizes)) : Met l yX1_addCite wsX1_addCite { frames := 1, cells := 0, slots := 0, locals := 23 } (pn_Pc D cI cJ cZ [.ref a_t, .long p1] [(a_t, .inr (0, [.ref a_t_sizes, .ref a_t_cites, .int v_t_notes, .int v_t_version])), (a_t_cites, .inl (cJ, 32, .inr (.inl r_t_cites))), (a_t_sizes, .inl (cI, 8, .inl r_t_sizes))] sz) (pn_Qv D [(a_t, .inr (0, [.ref a_t_sizes, .ref a_t_cites, .int v_t_notes, .int o_t_version])), (a_t_cites, .inl (cJ, 32, .inr (.inl o_t_cites))), (a_t_sizes, .inl (cI, 8, .inl o_t_sizes))] (va_A [(a_t, .inr (0, [.ref a_t_sizes, .ref a_t_cites, .int v_t_notes, .int v_t_version])), (a_t_cites, .inl (cJ, 32, .inr (.inl r_t_cites))), (a_t_sizes, .inl (cI, 8, .inl r_t_sizes))] sz)) 0 0 (va_A [(a_t, .inr (0, [.ref a_t_sizes, .ref a_t_cites, .int v_t_notes, .int v_t_version])), (a_t_cites, .inl (cJ, 32, .inr (.inl r_t_cites))), (a_t_sizes, .inl (cI, 8, .inl r_t_sizes))] sz) := by
  refine pn_entry (cc := cX1_addCite) (maxL := 4) (ret := none) (Qf := pn_Qv D [(a_t, .inr (0, [.ref a_t_sizes, .ref a_t_cites, .int v_t_notes, .int o_t_version])), (a_t_cites, .inl (cJ, 32, .inr (.inl o_t_cites))), (a_t_sizes, .inl (cI, 8, .inl o_t_sizes))]) (by decide) rfl (Nat.le_of_ble_eq_true rfl) ?_
  intro p e s m args below meth c A ls H locs Qm hQ hx hb hr hlocks hml hown hts hK hP hD hA hS hl
  have hl : lv_has ls 4 [(0, .ref a_t), (1, .long p1)] := hl
  have hinX1 : ∀ w ∈ wsX10, w ∈ wsX1_addCite := by decide +kernel
  have fl_9 := hts (.fieldLink RX1 9 "PointingNotes$Paper" "sizes" "[I") (by decide +kernel)
  have fl_19 := hts (.fieldLink RX1 19 "PointingNotes$Paper" "notes" "I") (by decide +kernel)
  rw [f_X1_addCite] at hf
  refine lv_aload_n hx hb dX1_addCite_0 rfl (lv_at hl 0 rfl) ?_
  refine va_get (D := D) (ci := 0) (v := .int v_t_notes) (C := RX1) (T := TX1) (N := 4) hx hb hts hinX1 hown hK.1 hP 0 rfl rfl 2 (by decide) fl_19 (fun _ h9 => h9) rfl dX1_addCite_1 ?_
  refine lv_iconst (v := (1)) hx hb dX1_addCite_4 (by decide) ?_
  refine lv_isub hx hb dX1_addCite_5 ?_
  refine lv_topi (fun z1 ez1 => ?_)
  have hf := pn_nm_at ez1 hf
  refine lv_istore_n (lv' := [(3, .int z1), (0, .ref a_t), (1, .long p1)]) hx hb dX1_addCite_6 rfl hl (by decide) rfl (fun ls hl => ?_)
  refine lv_iload_n hx hb dX1_addCite_7 rfl (lv_at hl 0 rfl) ?_
  refine lv_if_lt (tgt := 27) hx hb dX1_addCite_8 (by decide) (fun c2 => ?_) (fun c2 => ?_)
  · have hf := pn_ifp c2 hf
    cases hf
    rw [hQ]
    exact pn_retv hx hb hr hlocks hP hS dX1_addCite_27
  · have hf := pn_ifn c2 hf
    refine lv_iload_n hx hb dX1_addCite_11 rfl (lv_at hl 0 rfl) ?_
    refine lv_bipush (v := (8)) hx hb dX1_addCite_12 (by decide) ?_
    refine lv_icmp_ge (tgt := 27) hx hb dX1_addCite_14 (by decide) (fun c3 => ?_) (fun c3 => ?_)
    · have hf := pn_ifp c3 hf
      cases hf
      rw [hQ]
      exact pn_retv hx hb hr hlocks hP hS dX1_addCite_27
    · have hf := pn_ifn c3 hf
      refine lv_aload_n hx hb dX1_addCite_17 rfl (lv_at hl 1 rfl) ?_
      refine va_get (D := D) (ci := 0) (v := .ref a_t_sizes) (C := RX1) (T := TX1) (N := 4) hx hb hts hinX1 hown hK.1 hP 0 rfl rfl 0 (by decide) fl_9 (fun _ h9 => h9) rfl dX1_addCite_18 ?_
      refine lv_iload_n hx hb dX1_addCite_21 rfl (lv_at hl 0 rfl) ?_
      obtain ⟨hi5, w4, ew4, hf⟩ := pn_rd_at hf
      refine pn_ldI hx hb hK.1 hP 2 0 rfl rfl hi5 ew4 dX1_addCite_22 ?_
      refine lv_iconst (v := (4)) hx hb dX1_addCite_23 (by decide) ?_
      refine lv_icmp_lt (tgt := 28) hx hb dX1_addCite_24 (by decide) (fun c6 => ?_) (fun c6 => ?_)
      · have hf := pn_ifp c6 hf
        refine lv_aload_n hx hb dX1_addCite_28 rfl (lv_at hl 1 rfl) ?_
        refine va_get (D := D) (ci := 0) (v := .ref a_t_sizes) (C := RX1) (T := TX1) (N := 4) hx hb hts hinX1 hown hK.1 hP 0 rfl rfl 0 (by decide) fl_9 (fun _ h9 => h9) rfl dX1_addCite_29 ?_
        refine lv_iload_n hx hb dX1_addCite_32 rfl (lv_at hl 0 rfl) ?_
        refine lv_dup2_11 hx hb dX1_addCite_33 rfl rfl ?_
        obtain ⟨hi8, w7, ew7, hf⟩ := pn_rd_at hf
        refine pn_ldI hx hb hK.1 hP 2 0 rfl rfl hi8 ew7 dX1_addCite_34 ?_
        refine lv_iconst (v := (1)) hx hb dX1_addCite_35 (by decide) ?_
        refine lv_iadd hx hb dX1_addCite_36 ?_
        obtain ⟨hi10, g9, eg9, hf⟩ := pn_wrI_at hf
        refine pn_stI hx hb hK.1 hP (hD.addr rfl) hS 2 0 rfl rfl hi10 eg9 dX1_addCite_37 (fun H locs (hP : va_P D vwCl [(a_t, .inr (0, [.ref a_t_sizes, .ref a_t_cites, .int v_t_notes, .int v_t_version])), (a_t_cites, .inl (cJ, 32, .inr (.inl r_t_cites))), (a_t_sizes, .inl (cI, 8, .inl g9))] H) _ hS => ?_)
        refine lv_aload_n hx hb dX1_addCite_38 rfl (lv_at hl 1 rfl) ?_
        refine lv_iload_n hx hb dX1_addCite_39 rfl (lv_at hl 0 rfl) ?_
        refine lv_aload_n hx hb dX1_addCite_40 rfl (lv_at hl 1 rfl) ?_
        refine va_get (D := D) (ci := 0) (v := .ref a_t_sizes) (C := RX1) (T := TX1) (N := 4) hx hb hts hinX1 hown hK.1 hP 0 rfl rfl 0 (by decide) fl_9 (fun _ h9 => h9) rfl dX1_addCite_41 ?_
        refine lv_iload_n hx hb dX1_addCite_44 rfl (lv_at hl 0 rfl) ?_
        obtain ⟨hi12, w11, ew11, hf⟩ := pn_rd_at hf
        refine pn_ldI hx hb hK.1 hP 2 0 rfl rfl hi12 ew11 dX1_addCite_45 ?_
        refine lv_iconst (v := (1)) hx hb dX1_addCite_46 (by decide) ?_
        refine lv_isub hx hb dX1_addCite_47 ?_
        obtain ⟨ru13, hu13, hf⟩ := pn_bd1_at hf
        refine pn_calli [] (va_runS (As := [.int z1, .int (w11 - (1 : Int32))]) (rest := [.ref a_t]) ⟨hx, hb, hml, hown, hts⟩ (c_X1_slotOf l D cI cJ cZ H.size z1 (w11 - (1 : Int32)) ru13 hu13) (va_cwS 2 hts gX1_addCite_X1_slotOf rfl rfl rfl hdX1_slotOf ⟨Nat.le_of_ble_eq_true rfl, Nat.le_of_ble_eq_true rfl⟩) (pn_preS [] hP (hD.addr rfl) hK rfl rfl) rfl rfl hl.1 rfl (lv_room (Nat.le_of_ble_eq_true rfl)) dX1_addCite_48 ⟨Nat.zero_le _, Nat.zero_le _⟩) hP (hD.addr rfl) hS hA rfl rfl rfl (fun H locs (hP : va_P D vwCl [(a_t, .inr (0, [.ref a_t_sizes, .ref a_t_cites, .int v_t_notes, .int v_t_version])), (a_t_cites, .inl (cJ, 32, .inr (.inl r_t_cites))), (a_t_sizes, .inl (cI, 8, .inl g9))] H) _ hS => ?_)
        refine lv_lload_n hx hb dX1_addCite_51 rfl (lv_at hl 2 rfl) ?_
        obtain ⟨v_t_version_u14, r_t_cites_u14, hu14, hf⟩ := pn_bd2_at hf
        refine pn_callv [0, 1] (va_runV (As := [.int ru13, .long p1]) (rest := []) ⟨hx, hb, hml, hown, hts⟩ (c_X1_replaceCite l D cI cJ cZ a_t a_t_sizes a_t_cites H.size v_t_notes v_t_version r_t_cites ru13 p1 v_t_version_u14 r_t_cites_u14 hu14) (cwV 2 hts gX1_addCite_X1_replaceCite rfl rfl rfl hdX1_replaceCite ⟨Nat.le_of_ble_eq_true rfl, Nat.le_of_ble_eq_true rfl⟩) (pn_preV [0, 1] hP (hD.addr rfl) hK rfl rfl (q0 := 0) (ci := 0) rfl rfl) rfl rfl hl.1 rfl (lv_room (Nat.le_of_ble_eq_true rfl)) dX1_addCite_52 ⟨Nat.zero_le _, Nat.zero_le _⟩) hP (hD.addr rfl) hS hA rfl rfl rfl (fun H locs (hP : va_P D vwCl [(a_t, .inr (0, [.ref a_t_sizes, .ref a_t_cites, .int v_t_notes, .int v_t_version_u14])), (a_t_cites, .inl (cJ, 32, .inr (.inl r_t_cites_u14))), (a_t_sizes, .inl (cI, 8, .inl g9))] H) _ hS => ?_)
        cases hf
        rw [hQ]
        exact pn_retv hx hb hr hlocks hP hS dX1_addCite_55
      · have hf := pn_ifn c6 hf
        cases hf
        rw [hQ]
        exact pn_retv hx hb hr hlocks hP hS dX1_addCite_27
def f_X1_copyFrom (v_t_notes : Int32) (v_t_version : Int32) (r_t_cites : Nat → Int64) (r_t_sizes : Nat → Int32) (v_q1_notes : Int32) (r_q1_cites : Nat → Int64) (r_q1_sizes : Nat → Int32) : Option (Int32 × Int32 × (Nat → Int64) × (Nat → Int32)) :=
  pn_nm (v_t_version + (1 : Int32)) fun z1 =>
  pn_cp 8 r_q1_sizes (0 : Int32) 8 r_t_sizes (0 : Int32) (8 : Int32) fun g2 =>
  pn_cp 32 r_q1_cites (0 : Int32) 32 r_t_cites (0 : Int32) (32 : Int32) fun g3 =>
  some (v_q1_notes, z1, g3, g2)
set_option maxHeartbeats 4000000 in
set_option maxRecDepth 100000 in
theorem c_X1_copyFrom (l : Launch) (D : va_G) (cI cJ cZ : ClassId) (a_t a_t_sizes a_t_cites a_q1 a_q1_sizes a_q1_cites : Nat) (sz : Nat) (v_q1_version : Int32) (v_t_notes : Int32) (v_t_version : Int32) (r_t_cites : Nat → Int64) (r_t_sizes : Nat → Int32) (v_q1_notes : Int32) (r_q1_cites : Nat → Int64) (r_q1_sizes : Nat → Int32) (o_t_notes : Int32) (o_t_version : Int32) (o_t_cites : Nat → Int64) (o_t_sizes : Nat → Int32) (hf : f_X1_copyFrom v_t_notes v_t_version r_t_cites r_t_sizes v_q1_notes r_q1_cites r_q1_sizes = some (o_t_notes, o_t_version, o_t_cites, o_t_sizes)) : Met l yX1_copyFrom wsX1_copyFrom { frames := 1, cells := 0, slots := 0, locals := 60 } (pn_Pc D cI cJ cZ [.ref a_t, .ref a_q1] [(a_t, .inr (0, [.ref a_t_sizes, .ref a_t_cites, .int v_t_notes, .int v_t_version])), (a_t_cites, .inl (cJ, 32, .inr (.inl r_t_cites))), (a_t_sizes, .inl (cI, 8, .inl r_t_sizes)), (a_q1, .inr (0, [.ref a_q1_sizes, .ref a_q1_cites, .int v_q1_notes, .int v_q1_version])), (a_q1_cites, .inl (cJ, 32, .inr (.inl r_q1_cites))), (a_q1_sizes, .inl (cI, 8, .inl r_q1_sizes))] sz) (pn_Qv D [(a_t, .inr (0, [.ref a_t_sizes, .ref a_t_cites, .int o_t_notes, .int o_t_version])), (a_t_cites, .inl (cJ, 32, .inr (.inl o_t_cites))), (a_t_sizes, .inl (cI, 8, .inl o_t_sizes)), (a_q1, .inr (0, [.ref a_q1_sizes, .ref a_q1_cites, .int v_q1_notes, .int v_q1_version])), (a_q1_cites, .inl (cJ, 32, .inr (.inl r_q1_cites))), (a_q1_sizes, .inl (cI, 8, .inl r_q1_sizes))] (va_A [(a_t, .inr (0, [.ref a_t_sizes, .ref a_t_cites, .int v_t_notes, .int v_t_version])), (a_t_cites, .inl (cJ, 32, .inr (.inl r_t_cites))), (a_t_sizes, .inl (cI, 8, .inl r_t_sizes)), (a_q1, .inr (0, [.ref a_q1_sizes, .ref a_q1_cites, .int v_q1_notes, .int v_q1_version])), (a_q1_cites, .inl (cJ, 32, .inr (.inl r_q1_cites))), (a_q1_sizes, .inl (cI, 8, .inl r_q1_sizes))] sz)) 0 0 (va_A [(a_t, .inr (0, [.ref a_t_sizes, .ref a_t_cites, .int v_t_notes, .int v_t_version])), (a_t_cites, .inl (cJ, 32, .inr (.inl r_t_cites))), (a_t_sizes, .inl (cI, 8, .inl r_t_sizes)), (a_q1, .inr (0, [.ref a_q1_sizes, .ref a_q1_cites, .int v_q1_notes, .int v_q1_version])), (a_q1_cites, .inl (cJ, 32, .inr (.inl r_q1_cites))), (a_q1_sizes, .inl (cI, 8, .inl r_q1_sizes))] sz) := by
  refine pn_entry (cc := cX1_copyFrom) (maxL := 2) (ret := none) (Qf := pn_Qv D [(a_t, .inr (0, [.ref a_t_sizes, .ref a_t_cites, .int o_t_notes, .int o_t_version])), (a_t_cites, .inl (cJ, 32, .inr (.inl o_t_cites))), (a_t_sizes, .inl (cI, 8, .inl o_t_sizes)), (a_q1, .inr (0, [.ref a_q1_sizes, .ref a_q1_cites, .int v_q1_notes, .int v_q1_version])), (a_q1_cites, .inl (cJ, 32, .inr (.inl r_q1_cites))), (a_q1_sizes, .inl (cI, 8, .inl r_q1_sizes))]) (by decide) rfl (Nat.le_of_ble_eq_true rfl) ?_
  intro p e s m args below meth c A ls H locs Qm hQ hx hb hr hlocks hml hown hts hK hP hD hA hS hl
  have hl : lv_has ls 2 [(0, .ref a_t), (1, .ref a_q1)] := hl
  have hinX1 : ∀ w ∈ wsX10, w ∈ wsX1_copyFrom := by decide +kernel
  have fl_9 := hts (.fieldLink RX1 9 "PointingNotes$Paper" "sizes" "[I") (by decide +kernel)
  have fl_15 := hts (.fieldLink RX1 15 "PointingNotes$Paper" "cites" "[J") (by decide +kernel)
  have fl_19 := hts (.fieldLink RX1 19 "PointingNotes$Paper" "notes" "I") (by decide +kernel)
  have fl_23 := hts (.fieldLink RX1 23 "PointingNotes$Paper" "version" "I") (by decide +kernel)
  have cpn := hts (.native arraycopyName) (by decide +kernel)
  have cps := hts (.static arraycopyName) (by decide +kernel)
  have cpi := hts (.initialized "java/lang/System") (by decide +kernel)
  have cpl_48 := hts (.methodLink RX1 48 arraycopyName) (by decide +kernel)
  rw [f_X1_copyFrom] at hf
  refine lv_aload_n hx hb dX1_copyFrom_0 rfl (lv_at hl 0 rfl) ?_
  refine lv_dup hx hb dX1_copyFrom_1 rfl ?_
  refine va_get (D := D) (ci := 0) (v := .int v_t_version) (C := RX1) (T := TX1) (N := 4) hx hb hts hinX1 hown hK.1 hP 0 rfl rfl 3 (by decide) fl_23 (fun _ h9 => h9) rfl dX1_copyFrom_2 ?_
  refine lv_iconst (v := (1)) hx hb dX1_copyFrom_5 (by decide) ?_
  refine lv_iadd hx hb dX1_copyFrom_6 ?_
  refine lv_topi (fun z1 ez1 => ?_)
  have hf := pn_nm_at ez1 hf
  refine va_put (D := D) (ci := 0) (v := .int z1) (ty := .int) (C := RX1) (T := TX1) (N := 4) hx hb hts hinX1 tyX1 tyX1_ok nmX1 hown hK.1 hP (hD.addr rfl) hS 0 rfl rfl 3 (by decide) fl_23 (fun _ h9 => h9) rfl (by decide +kernel) rfl rfl (Nat.le_of_ble_eq_true rfl) dX1_copyFrom_7 (fun H locs (hP : va_P D vwCl [(a_t, .inr (0, [.ref a_t_sizes, .ref a_t_cites, .int v_t_notes, .int z1])), (a_t_cites, .inl (cJ, 32, .inr (.inl r_t_cites))), (a_t_sizes, .inl (cI, 8, .inl r_t_sizes)), (a_q1, .inr (0, [.ref a_q1_sizes, .ref a_q1_cites, .int v_q1_notes, .int v_q1_version])), (a_q1_cites, .inl (cJ, 32, .inr (.inl r_q1_cites))), (a_q1_sizes, .inl (cI, 8, .inl r_q1_sizes))] H) _ hS => ?_)
  refine lv_aload_n hx hb dX1_copyFrom_10 rfl (lv_at hl 0 rfl) ?_
  refine lv_aload_n hx hb dX1_copyFrom_11 rfl (lv_at hl 1 rfl) ?_
  refine va_get (D := D) (ci := 0) (v := .int v_q1_notes) (C := RX1) (T := TX1) (N := 4) hx hb hts hinX1 hown hK.1 hP 3 rfl rfl 2 (by decide) fl_19 (fun _ h9 => h9) rfl dX1_copyFrom_12 ?_
  refine va_put (D := D) (ci := 0) (v := .int v_q1_notes) (ty := .int) (C := RX1) (T := TX1) (N := 4) hx hb hts hinX1 tyX1 tyX1_ok nmX1 hown hK.1 hP (hD.addr rfl) hS 0 rfl rfl 2 (by decide) fl_19 (fun _ h9 => h9) rfl (by decide +kernel) rfl rfl (Nat.le_of_ble_eq_true rfl) dX1_copyFrom_15 (fun H locs (hP : va_P D vwCl [(a_t, .inr (0, [.ref a_t_sizes, .ref a_t_cites, .int v_q1_notes, .int z1])), (a_t_cites, .inl (cJ, 32, .inr (.inl r_t_cites))), (a_t_sizes, .inl (cI, 8, .inl r_t_sizes)), (a_q1, .inr (0, [.ref a_q1_sizes, .ref a_q1_cites, .int v_q1_notes, .int v_q1_version])), (a_q1_cites, .inl (cJ, 32, .inr (.inl r_q1_cites))), (a_q1_sizes, .inl (cI, 8, .inl r_q1_sizes))] H) _ hS => ?_)
  refine lv_aload_n hx hb dX1_copyFrom_18 rfl (lv_at hl 1 rfl) ?_
  refine va_get (D := D) (ci := 0) (v := .ref a_q1_sizes) (C := RX1) (T := TX1) (N := 4) hx hb hts hinX1 hown hK.1 hP 3 rfl rfl 0 (by decide) fl_9 (fun _ h9 => h9) rfl dX1_copyFrom_19 ?_
  refine lv_iconst (v := (0)) hx hb dX1_copyFrom_22 (by decide) ?_
  refine lv_aload_n hx hb dX1_copyFrom_23 rfl (lv_at hl 0 rfl) ?_
  refine va_get (D := D) (ci := 0) (v := .ref a_t_sizes) (C := RX1) (T := TX1) (N := 4) hx hb hts hinX1 hown hK.1 hP 0 rfl rfl 0 (by decide) fl_9 (fun _ h9 => h9) rfl dX1_copyFrom_24 ?_
  refine lv_iconst (v := (0)) hx hb dX1_copyFrom_27 (by decide) ?_
  refine lv_bipush (v := (8)) hx hb dX1_copyFrom_28 (by decide) ?_
  obtain ⟨⟨k1, k2, k3, k4, k5⟩, g2, eg2, hf⟩ := pn_cp_at hf
  refine va_copyi hx hb (by rw [hml]; exact hl.1.symm) hown cpl_48 cpn cps cpi hK.1 hP (hD.addr rfl) hS 5 2 0 0 rfl rfl rfl rfl rfl k1 k2 k3 k4 k5 (fun _ _ => rfl) (Nat.le_of_ble_eq_true rfl) (Nat.le_of_ble_eq_true rfl) dX1_copyFrom_30 (fun H locs hP _ hS => ?_)
  rw [← eg2] at hP
  have hP : va_P D vwCl [(a_t, .inr (0, [.ref a_t_sizes, .ref a_t_cites, .int v_q1_notes, .int z1])), (a_t_cites, .inl (cJ, 32, .inr (.inl r_t_cites))), (a_t_sizes, .inl (cI, 8, .inl g2)), (a_q1, .inr (0, [.ref a_q1_sizes, .ref a_q1_cites, .int v_q1_notes, .int v_q1_version])), (a_q1_cites, .inl (cJ, 32, .inr (.inl r_q1_cites))), (a_q1_sizes, .inl (cI, 8, .inl r_q1_sizes))] H := hP
  refine lv_aload_n hx hb dX1_copyFrom_33 rfl (lv_at hl 1 rfl) ?_
  refine va_get (D := D) (ci := 0) (v := .ref a_q1_cites) (C := RX1) (T := TX1) (N := 4) hx hb hts hinX1 hown hK.1 hP 3 rfl rfl 1 (by decide) fl_15 (fun _ h9 => h9) rfl dX1_copyFrom_34 ?_
  refine lv_iconst (v := (0)) hx hb dX1_copyFrom_37 (by decide) ?_
  refine lv_aload_n hx hb dX1_copyFrom_38 rfl (lv_at hl 0 rfl) ?_
  refine va_get (D := D) (ci := 0) (v := .ref a_t_cites) (C := RX1) (T := TX1) (N := 4) hx hb hts hinX1 hown hK.1 hP 0 rfl rfl 1 (by decide) fl_15 (fun _ h9 => h9) rfl dX1_copyFrom_39 ?_
  refine lv_iconst (v := (0)) hx hb dX1_copyFrom_42 (by decide) ?_
  refine lv_bipush (v := (32)) hx hb dX1_copyFrom_43 (by decide) ?_
  obtain ⟨⟨k1, k2, k3, k4, k5⟩, g3, eg3, hf⟩ := pn_cp_at hf
  refine va_copyl hx hb (by rw [hml]; exact hl.1.symm) hown cpl_48 cpn cps cpi hK.1 hP (hD.addr rfl) hS 4 1 1 1 rfl rfl rfl rfl rfl k1 k2 k3 k4 k5 (fun _ _ => rfl) (Nat.le_of_ble_eq_true rfl) (Nat.le_of_ble_eq_true rfl) dX1_copyFrom_45 (fun H locs hP _ hS => ?_)
  rw [← eg3] at hP
  have hP : va_P D vwCl [(a_t, .inr (0, [.ref a_t_sizes, .ref a_t_cites, .int v_q1_notes, .int z1])), (a_t_cites, .inl (cJ, 32, .inr (.inl g3))), (a_t_sizes, .inl (cI, 8, .inl g2)), (a_q1, .inr (0, [.ref a_q1_sizes, .ref a_q1_cites, .int v_q1_notes, .int v_q1_version])), (a_q1_cites, .inl (cJ, 32, .inr (.inl r_q1_cites))), (a_q1_sizes, .inl (cI, 8, .inl r_q1_sizes))] H := hP
  cases hf
  rw [hQ]
  exact pn_retv hx hb hr hlocks hP hS dX1_copyFrom_48
def f_X1_saveTo (r_t_cites : Nat → Int64) (r_t_sizes : Nat → Int32) (n_q1 : Nat) (r_q1 : Nat → Int32) (n_q2 : Nat) (r_q2 : Nat → Int64) (p3 : Int32) : Option ((Nat → Int32) × (Nat → Int64)) :=
  if p3 < 0 then
  some (r_q1, r_q2)
  else
  if (Int32.ofNat n_q1) < ((p3 + (1 : Int32)) * (8 : Int32)) then
  some (r_q1, r_q2)
  else
  if ((p3 + (1 : Int32)) * (32 : Int32)) ≤ (Int32.ofNat n_q2) then
  pn_cp 8 r_t_sizes (0 : Int32) n_q1 r_q1 (p3 * (8 : Int32)) (8 : Int32) fun g4 =>
  pn_cp 32 r_t_cites (0 : Int32) n_q2 r_q2 (p3 * (32 : Int32)) (32 : Int32) fun g5 =>
  some (g4, g5)
  else
  some (r_q1, r_q2)
set_option maxHeartbeats 4000000 in
set_option maxRecDepth 100000 in
theorem c_X1_saveTo (l : Launch) (D : va_G) (cI cJ cZ : ClassId) (a_t a_t_sizes a_t_cites a_q1 a_q2 : Nat) (sz : Nat) (v_t_notes : Int32) (v_t_version : Int32) (r_t_cites : Nat → Int64) (r_t_sizes : Nat → Int32) (n_q1 : Nat) (r_q1 : Nat → Int32) (n_q2 : Nat) (r_q2 : Nat → Int64) (p3 : Int32) (o_q1 : Nat → Int32) (o_q2 : Nat → Int64) (hf : f_X1_saveTo r_t_cites r_t_sizes n_q1 r_q1 n_q2 r_q2 p3 = some (o_q1, o_q2)) : Met l yX1_saveTo wsX1_saveTo { frames := 1, cells := 0, slots := 0, locals := 60 } (pn_Pc D cI cJ cZ [.ref a_t, .ref a_q1, .ref a_q2, .int p3] [(a_t, .inr (0, [.ref a_t_sizes, .ref a_t_cites, .int v_t_notes, .int v_t_version])), (a_t_cites, .inl (cJ, 32, .inr (.inl r_t_cites))), (a_t_sizes, .inl (cI, 8, .inl r_t_sizes)), (a_q1, .inl (cI, n_q1, .inl r_q1)), (a_q2, .inl (cJ, n_q2, .inr (.inl r_q2)))] sz) (pn_Qv D [(a_t, .inr (0, [.ref a_t_sizes, .ref a_t_cites, .int v_t_notes, .int v_t_version])), (a_t_cites, .inl (cJ, 32, .inr (.inl r_t_cites))), (a_t_sizes, .inl (cI, 8, .inl r_t_sizes)), (a_q1, .inl (cI, n_q1, .inl o_q1)), (a_q2, .inl (cJ, n_q2, .inr (.inl o_q2)))] (va_A [(a_t, .inr (0, [.ref a_t_sizes, .ref a_t_cites, .int v_t_notes, .int v_t_version])), (a_t_cites, .inl (cJ, 32, .inr (.inl r_t_cites))), (a_t_sizes, .inl (cI, 8, .inl r_t_sizes)), (a_q1, .inl (cI, n_q1, .inl r_q1)), (a_q2, .inl (cJ, n_q2, .inr (.inl r_q2)))] sz)) 0 0 (va_A [(a_t, .inr (0, [.ref a_t_sizes, .ref a_t_cites, .int v_t_notes, .int v_t_version])), (a_t_cites, .inl (cJ, 32, .inr (.inl r_t_cites))), (a_t_sizes, .inl (cI, 8, .inl r_t_sizes)), (a_q1, .inl (cI, n_q1, .inl r_q1)), (a_q2, .inl (cJ, n_q2, .inr (.inl r_q2)))] sz) := by
  refine pn_entry (cc := cX1_saveTo) (maxL := 4) (ret := none) (Qf := pn_Qv D [(a_t, .inr (0, [.ref a_t_sizes, .ref a_t_cites, .int v_t_notes, .int v_t_version])), (a_t_cites, .inl (cJ, 32, .inr (.inl r_t_cites))), (a_t_sizes, .inl (cI, 8, .inl r_t_sizes)), (a_q1, .inl (cI, n_q1, .inl o_q1)), (a_q2, .inl (cJ, n_q2, .inr (.inl o_q2)))]) (by decide) rfl (Nat.le_of_ble_eq_true rfl) ?_
  intro p e s m args below meth c A ls H locs Qm hQ hx hb hr hlocks hml hown hts hK hP hD hA hS hl
  have hl : lv_has ls 4 [(0, .ref a_t), (1, .ref a_q1), (2, .ref a_q2), (3, .int p3)] := hl
  have hinX1 : ∀ w ∈ wsX10, w ∈ wsX1_saveTo := by decide +kernel
  have fl_9 := hts (.fieldLink RX1 9 "PointingNotes$Paper" "sizes" "[I") (by decide +kernel)
  have fl_15 := hts (.fieldLink RX1 15 "PointingNotes$Paper" "cites" "[J") (by decide +kernel)
  have cpn := hts (.native arraycopyName) (by decide +kernel)
  have cps := hts (.static arraycopyName) (by decide +kernel)
  have cpi := hts (.initialized "java/lang/System") (by decide +kernel)
  have cpl_48 := hts (.methodLink RX1 48 arraycopyName) (by decide +kernel)
  rw [f_X1_saveTo] at hf
  refine lv_iload_n hx hb dX1_saveTo_0 rfl (lv_at hl 3 rfl) ?_
  refine lv_if_lt (tgt := 26) hx hb dX1_saveTo_1 (by decide) (fun c1 => ?_) (fun c1 => ?_)
  · have hf := pn_ifp c1 hf
    cases hf
    rw [hQ]
    exact pn_retv hx hb hr hlocks hP hS dX1_saveTo_26
  · have hf := pn_ifn c1 hf
    refine lv_iload_n hx hb dX1_saveTo_4 rfl (lv_at hl 3 rfl) ?_
    refine lv_iconst (v := (1)) hx hb dX1_saveTo_5 (by decide) ?_
    refine lv_iadd hx hb dX1_saveTo_6 ?_
    refine lv_bipush (v := (8)) hx hb dX1_saveTo_7 (by decide) ?_
    refine lv_imul hx hb dX1_saveTo_9 ?_
    refine lv_aload_n hx hb dX1_saveTo_10 rfl (lv_at hl 1 rfl) ?_
    refine va_alen hx hb hK.1 hP 3 0 rfl rfl rfl dX1_saveTo_11 ?_
    refine lv_icmp_gt (tgt := 26) hx hb dX1_saveTo_12 (by decide) (fun c2 => ?_) (fun c2 => ?_)
    · have hf := pn_ifp c2 hf
      cases hf
      rw [hQ]
      exact pn_retv hx hb hr hlocks hP hS dX1_saveTo_26
    · have hf := pn_ifn c2 hf
      refine lv_iload_n hx hb dX1_saveTo_15 rfl (lv_at hl 3 rfl) ?_
      refine lv_iconst (v := (1)) hx hb dX1_saveTo_16 (by decide) ?_
      refine lv_iadd hx hb dX1_saveTo_17 ?_
      refine lv_bipush (v := (32)) hx hb dX1_saveTo_18 (by decide) ?_
      refine lv_imul hx hb dX1_saveTo_20 ?_
      refine lv_aload_n hx hb dX1_saveTo_21 rfl (lv_at hl 2 rfl) ?_
      refine va_alen hx hb hK.1 hP 4 1 rfl rfl rfl dX1_saveTo_22 ?_
      refine lv_icmp_le (tgt := 27) hx hb dX1_saveTo_23 (by decide) (fun c3 => ?_) (fun c3 => ?_)
      · have hf := pn_ifp c3 hf
        refine lv_aload_n hx hb dX1_saveTo_27 rfl (lv_at hl 0 rfl) ?_
        refine va_get (D := D) (ci := 0) (v := .ref a_t_sizes) (C := RX1) (T := TX1) (N := 4) hx hb hts hinX1 hown hK.1 hP 0 rfl rfl 0 (by decide) fl_9 (fun _ h9 => h9) rfl dX1_saveTo_28 ?_
        refine lv_iconst (v := (0)) hx hb dX1_saveTo_31 (by decide) ?_
        refine lv_aload_n hx hb dX1_saveTo_32 rfl (lv_at hl 1 rfl) ?_
        refine lv_iload_n hx hb dX1_saveTo_33 rfl (lv_at hl 3 rfl) ?_
        refine lv_bipush (v := (8)) hx hb dX1_saveTo_34 (by decide) ?_
        refine lv_imul hx hb dX1_saveTo_36 ?_
        refine lv_bipush (v := (8)) hx hb dX1_saveTo_37 (by decide) ?_
        obtain ⟨⟨k1, k2, k3, k4, k5⟩, g4, eg4, hf⟩ := pn_cp_at hf
        refine va_copyi hx hb (by rw [hml]; exact hl.1.symm) hown cpl_48 cpn cps cpi hK.1 hP (hD.addr rfl) hS 2 3 0 0 rfl rfl rfl rfl rfl k1 k2 k3 k4 k5 (fun _ _ => rfl) (Nat.le_of_ble_eq_true rfl) (Nat.le_of_ble_eq_true rfl) dX1_saveTo_39 (fun H locs hP _ hS => ?_)
        rw [← eg4] at hP
        have hP : va_P D vwCl [(a_t, .inr (0, [.ref a_t_sizes, .ref a_t_cites, .int v_t_notes, .int v_t_version])), (a_t_cites, .inl (cJ, 32, .inr (.inl r_t_cites))), (a_t_sizes, .inl (cI, 8, .inl r_t_sizes)), (a_q1, .inl (cI, n_q1, .inl g4)), (a_q2, .inl (cJ, n_q2, .inr (.inl r_q2)))] H := hP
        refine lv_aload_n hx hb dX1_saveTo_42 rfl (lv_at hl 0 rfl) ?_
        refine va_get (D := D) (ci := 0) (v := .ref a_t_cites) (C := RX1) (T := TX1) (N := 4) hx hb hts hinX1 hown hK.1 hP 0 rfl rfl 1 (by decide) fl_15 (fun _ h9 => h9) rfl dX1_saveTo_43 ?_
        refine lv_iconst (v := (0)) hx hb dX1_saveTo_46 (by decide) ?_
        refine lv_aload_n hx hb dX1_saveTo_47 rfl (lv_at hl 2 rfl) ?_
        refine lv_iload_n hx hb dX1_saveTo_48 rfl (lv_at hl 3 rfl) ?_
        refine lv_bipush (v := (32)) hx hb dX1_saveTo_49 (by decide) ?_
        refine lv_imul hx hb dX1_saveTo_51 ?_
        refine lv_bipush (v := (32)) hx hb dX1_saveTo_52 (by decide) ?_
        obtain ⟨⟨k1, k2, k3, k4, k5⟩, g5, eg5, hf⟩ := pn_cp_at hf
        refine va_copyl hx hb (by rw [hml]; exact hl.1.symm) hown cpl_48 cpn cps cpi hK.1 hP (hD.addr rfl) hS 1 4 1 1 rfl rfl rfl rfl rfl k1 k2 k3 k4 k5 (fun _ _ => rfl) (Nat.le_of_ble_eq_true rfl) (Nat.le_of_ble_eq_true rfl) dX1_saveTo_54 (fun H locs hP _ hS => ?_)
        rw [← eg5] at hP
        have hP : va_P D vwCl [(a_t, .inr (0, [.ref a_t_sizes, .ref a_t_cites, .int v_t_notes, .int v_t_version])), (a_t_cites, .inl (cJ, 32, .inr (.inl r_t_cites))), (a_t_sizes, .inl (cI, 8, .inl r_t_sizes)), (a_q1, .inl (cI, n_q1, .inl g4)), (a_q2, .inl (cJ, n_q2, .inr (.inl g5)))] H := hP
        cases hf
        rw [hQ]
        exact pn_retv hx hb hr hlocks hP hS dX1_saveTo_57
      · have hf := pn_ifn c3 hf
        cases hf
        rw [hQ]
        exact pn_retv hx hb hr hlocks hP hS dX1_saveTo_26
def f_X1_loadFrom (v_t_notes : Int32) (v_t_version : Int32) (r_t_cites : Nat → Int64) (r_t_sizes : Nat → Int32) (n_q1 : Nat) (r_q1 : Nat → Int32) (n_q2 : Nat) (r_q2 : Nat → Int64) (p3 : Int32) (p4 : Int32) : Option (Int32 × Int32 × (Nat → Int64) × (Nat → Int32)) :=
  if p3 < 0 then
  some (v_t_notes, v_t_version, r_t_cites, r_t_sizes)
  else
  if (Int32.ofNat n_q1) < ((p3 + (1 : Int32)) * (8 : Int32)) then
  some (v_t_notes, v_t_version, r_t_cites, r_t_sizes)
  else
  if ((p3 + (1 : Int32)) * (32 : Int32)) ≤ (Int32.ofNat n_q2) then
  pn_nm (v_t_version + (1 : Int32)) fun z4 =>
  pn_cp n_q1 r_q1 (p3 * (8 : Int32)) 8 r_t_sizes (0 : Int32) (8 : Int32) fun g5 =>
  pn_cp n_q2 r_q2 (p3 * (32 : Int32)) 32 r_t_cites (0 : Int32) (32 : Int32) fun g6 =>
  some (p4, z4, g6, g5)
  else
  some (v_t_notes, v_t_version, r_t_cites, r_t_sizes)
set_option maxHeartbeats 4000000 in
set_option maxRecDepth 100000 in
theorem c_X1_loadFrom (l : Launch) (D : va_G) (cI cJ cZ : ClassId) (a_t a_t_sizes a_t_cites a_q1 a_q2 : Nat) (sz : Nat) (v_t_notes : Int32) (v_t_version : Int32) (r_t_cites : Nat → Int64) (r_t_sizes : Nat → Int32) (n_q1 : Nat) (r_q1 : Nat → Int32) (n_q2 : Nat) (r_q2 : Nat → Int64) (p3 : Int32) (p4 : Int32) (o_t_notes : Int32) (o_t_version : Int32) (o_t_cites : Nat → Int64) (o_t_sizes : Nat → Int32) (hf : f_X1_loadFrom v_t_notes v_t_version r_t_cites r_t_sizes n_q1 r_q1 n_q2 r_q2 p3 p4 = some (o_t_notes, o_t_version, o_t_cites, o_t_sizes)) : Met l yX1_loadFrom wsX1_loadFrom { frames := 1, cells := 0, slots := 0, locals := 60 } (pn_Pc D cI cJ cZ [.ref a_t, .ref a_q1, .ref a_q2, .int p3, .int p4] [(a_t, .inr (0, [.ref a_t_sizes, .ref a_t_cites, .int v_t_notes, .int v_t_version])), (a_t_cites, .inl (cJ, 32, .inr (.inl r_t_cites))), (a_t_sizes, .inl (cI, 8, .inl r_t_sizes)), (a_q1, .inl (cI, n_q1, .inl r_q1)), (a_q2, .inl (cJ, n_q2, .inr (.inl r_q2)))] sz) (pn_Qv D [(a_t, .inr (0, [.ref a_t_sizes, .ref a_t_cites, .int o_t_notes, .int o_t_version])), (a_t_cites, .inl (cJ, 32, .inr (.inl o_t_cites))), (a_t_sizes, .inl (cI, 8, .inl o_t_sizes)), (a_q1, .inl (cI, n_q1, .inl r_q1)), (a_q2, .inl (cJ, n_q2, .inr (.inl r_q2)))] (va_A [(a_t, .inr (0, [.ref a_t_sizes, .ref a_t_cites, .int v_t_notes, .int v_t_version])), (a_t_cites, .inl (cJ, 32, .inr (.inl r_t_cites))), (a_t_sizes, .inl (cI, 8, .inl r_t_sizes)), (a_q1, .inl (cI, n_q1, .inl r_q1)), (a_q2, .inl (cJ, n_q2, .inr (.inl r_q2)))] sz)) 0 0 (va_A [(a_t, .inr (0, [.ref a_t_sizes, .ref a_t_cites, .int v_t_notes, .int v_t_version])), (a_t_cites, .inl (cJ, 32, .inr (.inl r_t_cites))), (a_t_sizes, .inl (cI, 8, .inl r_t_sizes)), (a_q1, .inl (cI, n_q1, .inl r_q1)), (a_q2, .inl (cJ, n_q2, .inr (.inl r_q2)))] sz) := by
  refine pn_entry (cc := cX1_loadFrom) (maxL := 5) (ret := none) (Qf := pn_Qv D [(a_t, .inr (0, [.ref a_t_sizes, .ref a_t_cites, .int o_t_notes, .int o_t_version])), (a_t_cites, .inl (cJ, 32, .inr (.inl o_t_cites))), (a_t_sizes, .inl (cI, 8, .inl o_t_sizes)), (a_q1, .inl (cI, n_q1, .inl r_q1)), (a_q2, .inl (cJ, n_q2, .inr (.inl r_q2)))]) (by decide) rfl (Nat.le_of_ble_eq_true rfl) ?_
  intro p e s m args below meth c A ls H locs Qm hQ hx hb hr hlocks hml hown hts hK hP hD hA hS hl
  have hl : lv_has ls 5 [(0, .ref a_t), (1, .ref a_q1), (2, .ref a_q2), (3, .int p3), (4, .int p4)] := hl
  have hinX1 : ∀ w ∈ wsX10, w ∈ wsX1_loadFrom := by decide +kernel
  have fl_9 := hts (.fieldLink RX1 9 "PointingNotes$Paper" "sizes" "[I") (by decide +kernel)
  have fl_15 := hts (.fieldLink RX1 15 "PointingNotes$Paper" "cites" "[J") (by decide +kernel)
  have fl_19 := hts (.fieldLink RX1 19 "PointingNotes$Paper" "notes" "I") (by decide +kernel)
  have fl_23 := hts (.fieldLink RX1 23 "PointingNotes$Paper" "version" "I") (by decide +kernel)
  have cpn := hts (.native arraycopyName) (by decide +kernel)
  have cps := hts (.static arraycopyName) (by decide +kernel)
  have cpi := hts (.initialized "java/lang/System") (by decide +kernel)
  have cpl_48 := hts (.methodLink RX1 48 arraycopyName) (by decide +kernel)
  rw [f_X1_loadFrom] at hf
  refine lv_iload_n hx hb dX1_loadFrom_0 rfl (lv_at hl 3 rfl) ?_
  refine lv_if_lt (tgt := 26) hx hb dX1_loadFrom_1 (by decide) (fun c1 => ?_) (fun c1 => ?_)
  · have hf := pn_ifp c1 hf
    cases hf
    rw [hQ]
    exact pn_retv hx hb hr hlocks hP hS dX1_loadFrom_26
  · have hf := pn_ifn c1 hf
    refine lv_iload_n hx hb dX1_loadFrom_4 rfl (lv_at hl 3 rfl) ?_
    refine lv_iconst (v := (1)) hx hb dX1_loadFrom_5 (by decide) ?_
    refine lv_iadd hx hb dX1_loadFrom_6 ?_
    refine lv_bipush (v := (8)) hx hb dX1_loadFrom_7 (by decide) ?_
    refine lv_imul hx hb dX1_loadFrom_9 ?_
    refine lv_aload_n hx hb dX1_loadFrom_10 rfl (lv_at hl 1 rfl) ?_
    refine va_alen hx hb hK.1 hP 3 0 rfl rfl rfl dX1_loadFrom_11 ?_
    refine lv_icmp_gt (tgt := 26) hx hb dX1_loadFrom_12 (by decide) (fun c2 => ?_) (fun c2 => ?_)
    · have hf := pn_ifp c2 hf
      cases hf
      rw [hQ]
      exact pn_retv hx hb hr hlocks hP hS dX1_loadFrom_26
    · have hf := pn_ifn c2 hf
      refine lv_iload_n hx hb dX1_loadFrom_15 rfl (lv_at hl 3 rfl) ?_
      refine lv_iconst (v := (1)) hx hb dX1_loadFrom_16 (by decide) ?_
      refine lv_iadd hx hb dX1_loadFrom_17 ?_
      refine lv_bipush (v := (32)) hx hb dX1_loadFrom_18 (by decide) ?_
      refine lv_imul hx hb dX1_loadFrom_20 ?_
      refine lv_aload_n hx hb dX1_loadFrom_21 rfl (lv_at hl 2 rfl) ?_
      refine va_alen hx hb hK.1 hP 4 1 rfl rfl rfl dX1_loadFrom_22 ?_
      refine lv_icmp_le (tgt := 27) hx hb dX1_loadFrom_23 (by decide) (fun c3 => ?_) (fun c3 => ?_)
      · have hf := pn_ifp c3 hf
        refine lv_aload_n hx hb dX1_loadFrom_27 rfl (lv_at hl 0 rfl) ?_
        refine lv_dup hx hb dX1_loadFrom_28 rfl ?_
        refine va_get (D := D) (ci := 0) (v := .int v_t_version) (C := RX1) (T := TX1) (N := 4) hx hb hts hinX1 hown hK.1 hP 0 rfl rfl 3 (by decide) fl_23 (fun _ h9 => h9) rfl dX1_loadFrom_29 ?_
        refine lv_iconst (v := (1)) hx hb dX1_loadFrom_32 (by decide) ?_
        refine lv_iadd hx hb dX1_loadFrom_33 ?_
        refine lv_topi (fun z4 ez4 => ?_)
        have hf := pn_nm_at ez4 hf
        refine va_put (D := D) (ci := 0) (v := .int z4) (ty := .int) (C := RX1) (T := TX1) (N := 4) hx hb hts hinX1 tyX1 tyX1_ok nmX1 hown hK.1 hP (hD.addr rfl) hS 0 rfl rfl 3 (by decide) fl_23 (fun _ h9 => h9) rfl (by decide +kernel) rfl rfl (Nat.le_of_ble_eq_true rfl) dX1_loadFrom_34 (fun H locs (hP : va_P D vwCl [(a_t, .inr (0, [.ref a_t_sizes, .ref a_t_cites, .int v_t_notes, .int z4])), (a_t_cites, .inl (cJ, 32, .inr (.inl r_t_cites))), (a_t_sizes, .inl (cI, 8, .inl r_t_sizes)), (a_q1, .inl (cI, n_q1, .inl r_q1)), (a_q2, .inl (cJ, n_q2, .inr (.inl r_q2)))] H) _ hS => ?_)
        refine lv_aload_n hx hb dX1_loadFrom_37 rfl (lv_at hl 0 rfl) ?_
        refine lv_iload hx hb dX1_loadFrom_38 (lv_at hl 4 rfl) ?_
        refine va_put (D := D) (ci := 0) (v := .int p4) (ty := .int) (C := RX1) (T := TX1) (N := 4) hx hb hts hinX1 tyX1 tyX1_ok nmX1 hown hK.1 hP (hD.addr rfl) hS 0 rfl rfl 2 (by decide) fl_19 (fun _ h9 => h9) rfl (by decide +kernel) rfl rfl (Nat.le_of_ble_eq_true rfl) dX1_loadFrom_40 (fun H locs (hP : va_P D vwCl [(a_t, .inr (0, [.ref a_t_sizes, .ref a_t_cites, .int p4, .int z4])), (a_t_cites, .inl (cJ, 32, .inr (.inl r_t_cites))), (a_t_sizes, .inl (cI, 8, .inl r_t_sizes)), (a_q1, .inl (cI, n_q1, .inl r_q1)), (a_q2, .inl (cJ, n_q2, .inr (.inl r_q2)))] H) _ hS => ?_)
        refine lv_aload_n hx hb dX1_loadFrom_43 rfl (lv_at hl 1 rfl) ?_
        refine lv_iload_n hx hb dX1_loadFrom_44 rfl (lv_at hl 3 rfl) ?_
        refine lv_bipush (v := (8)) hx hb dX1_loadFrom_45 (by decide) ?_
        refine lv_imul hx hb dX1_loadFrom_47 ?_
        refine lv_aload_n hx hb dX1_loadFrom_48 rfl (lv_at hl 0 rfl) ?_
        refine va_get (D := D) (ci := 0) (v := .ref a_t_sizes) (C := RX1) (T := TX1) (N := 4) hx hb hts hinX1 hown hK.1 hP 0 rfl rfl 0 (by decide) fl_9 (fun _ h9 => h9) rfl dX1_loadFrom_49 ?_
        refine lv_iconst (v := (0)) hx hb dX1_loadFrom_52 (by decide) ?_
        refine lv_bipush (v := (8)) hx hb dX1_loadFrom_53 (by decide) ?_
        obtain ⟨⟨k1, k2, k3, k4, k5⟩, g5, eg5, hf⟩ := pn_cp_at hf
        refine va_copyi hx hb (by rw [hml]; exact hl.1.symm) hown cpl_48 cpn cps cpi hK.1 hP (hD.addr rfl) hS 3 2 0 0 rfl rfl rfl rfl rfl k1 k2 k3 k4 k5 (fun _ _ => rfl) (Nat.le_of_ble_eq_true rfl) (Nat.le_of_ble_eq_true rfl) dX1_loadFrom_55 (fun H locs hP _ hS => ?_)
        rw [← eg5] at hP
        have hP : va_P D vwCl [(a_t, .inr (0, [.ref a_t_sizes, .ref a_t_cites, .int p4, .int z4])), (a_t_cites, .inl (cJ, 32, .inr (.inl r_t_cites))), (a_t_sizes, .inl (cI, 8, .inl g5)), (a_q1, .inl (cI, n_q1, .inl r_q1)), (a_q2, .inl (cJ, n_q2, .inr (.inl r_q2)))] H := hP
        refine lv_aload_n hx hb dX1_loadFrom_58 rfl (lv_at hl 2 rfl) ?_
        refine lv_iload_n hx hb dX1_loadFrom_59 rfl (lv_at hl 3 rfl) ?_
        refine lv_bipush (v := (32)) hx hb dX1_loadFrom_60 (by decide) ?_
        refine lv_imul hx hb dX1_loadFrom_62 ?_
        refine lv_aload_n hx hb dX1_loadFrom_63 rfl (lv_at hl 0 rfl) ?_
        refine va_get (D := D) (ci := 0) (v := .ref a_t_cites) (C := RX1) (T := TX1) (N := 4) hx hb hts hinX1 hown hK.1 hP 0 rfl rfl 1 (by decide) fl_15 (fun _ h9 => h9) rfl dX1_loadFrom_64 ?_
        refine lv_iconst (v := (0)) hx hb dX1_loadFrom_67 (by decide) ?_
        refine lv_bipush (v := (32)) hx hb dX1_loadFrom_68 (by decide) ?_
        obtain ⟨⟨k1, k2, k3, k4, k5⟩, g6, eg6, hf⟩ := pn_cp_at hf
        refine va_copyl hx hb (by rw [hml]; exact hl.1.symm) hown cpl_48 cpn cps cpi hK.1 hP (hD.addr rfl) hS 4 1 1 1 rfl rfl rfl rfl rfl k1 k2 k3 k4 k5 (fun _ _ => rfl) (Nat.le_of_ble_eq_true rfl) (Nat.le_of_ble_eq_true rfl) dX1_loadFrom_70 (fun H locs hP _ hS => ?_)
        rw [← eg6] at hP
        have hP : va_P D vwCl [(a_t, .inr (0, [.ref a_t_sizes, .ref a_t_cites, .int p4, .int z4])), (a_t_cites, .inl (cJ, 32, .inr (.inl g6))), (a_t_sizes, .inl (cI, 8, .inl g5)), (a_q1, .inl (cI, n_q1, .inl r_q1)), (a_q2, .inl (cJ, n_q2, .inr (.inl r_q2)))] H := hP
        cases hf
        rw [hQ]
        exact pn_retv hx hb hr hlocks hP hS dX1_loadFrom_73
      · have hf := pn_ifn c3 hf
        cases hf
        rw [hQ]
        exact pn_retv hx hb hr hlocks hP hS dX1_loadFrom_26
def lp_X1_mendNumbers_3 (v_t_notes : Int32) (r_t_sizes : Nat → Int32) (p1 : Int32) (p2 : Int32) (p3 : Int32) (p4 : Int32) (p5 : Int32) : Nat → Int32 → (Nat → Int64) → Option ((Nat → Int64))
  | 0, _, _ => none
  | n + 1, x6, r_t_cites =>
    if (32 : Int32) ≤ x6 then
  some r_t_cites
  else
  pn_bd1 (f_X1_hasSlot v_t_notes r_t_sizes x6) fun ru2 =>
  if ru2 = 0 then
  pn_nm (x6 + (1 : Int32)) fun z4 =>
  lp_X1_mendNumbers_3 v_t_notes r_t_sizes p1 p2 p3 p4 p5 n z4 r_t_cites
  else
  pn_rd 32 r_t_cites x6 fun w5 =>
  pn_bd1 (f_X0_form w5) fun ru7 =>
  if ru7 = (3 : Int32) then
  pn_rd 32 r_t_cites x6 fun w9 =>
  pn_bd1 (f_X0_number w9) fun ru11 =>
  if ¬ ru11 = p4 then
  if ru11 < p1 then
  pn_nm (x6 + (1 : Int32)) fun z14 =>
  lp_X1_mendNumbers_3 v_t_notes r_t_sizes p1 p2 p3 p4 p5 n z14 r_t_cites
  else
  if p2 < ru11 then
  pn_nm (x6 + (1 : Int32)) fun z16 =>
  lp_X1_mendNumbers_3 v_t_notes r_t_sizes p1 p2 p3 p4 p5 n z16 r_t_cites
  else
  pn_rd 32 r_t_cites x6 fun w17 =>
  pn_bd1 (f_X0_withNumber w17 (ru11 + p3)) fun ru19 =>
  pn_wrJ 32 r_t_cites x6 ru19 fun g20 =>
  pn_nm (x6 + (1 : Int32)) fun z22 =>
  lp_X1_mendNumbers_3 v_t_notes r_t_sizes p1 p2 p3 p4 p5 n z22 g20
  else
  pn_rd 32 r_t_cites x6 fun w23 =>
  pn_bd1 (f_X0_withNumber w23 p5) fun ru25 =>
  pn_wrJ 32 r_t_cites x6 ru25 fun g26 =>
  pn_nm (x6 + (1 : Int32)) fun z28 =>
  lp_X1_mendNumbers_3 v_t_notes r_t_sizes p1 p2 p3 p4 p5 n z28 g26
  else
  pn_nm (x6 + (1 : Int32)) fun z29 =>
  lp_X1_mendNumbers_3 v_t_notes r_t_sizes p1 p2 p3 p4 p5 n z29 r_t_cites
def f_X1_mendNumbers (N : Nat) (v_t_notes : Int32) (r_t_cites : Nat → Int64) (r_t_sizes : Nat → Int32) (p1 : Int32) (p2 : Int32) (p3 : Int32) (p4 : Int32) (p5 : Int32) : Option ((Nat → Int64)) :=
  pn_bd1 (lp_X1_mendNumbers_3 v_t_notes r_t_sizes p1 p2 p3 p4 p5 N (0 : Int32) r_t_cites) (fun X3 => (pn_u1 fun r_t_cites_w30 => some r_t_cites_w30) X3)
set_option maxHeartbeats 4000000 in
set_option maxRecDepth 100000 in
theorem c_X1_mendNumbers (l : Launch) (D : va_G) (cI cJ cZ : ClassId) (a_t a_t_sizes a_t_cites : Nat) (sz : Nat) (v_t_version : Int32) (N : Nat) (v_t_notes : Int32) (r_t_cites : Nat → Int64) (r_t_sizes : Nat → Int32) (p1 : Int32) (p2 : Int32) (p3 : Int32) (p4 : Int32) (p5 : Int32) (o_t_cites : Nat → Int64) (hf : f_X1_mendNumbers N v_t_notes r_t_cites r_t_sizes p1 p2 p3 p4 p5 = some o_t_cites) : Met l yX1_mendNumbers wsX1_mendNumbers { frames := 2, cells := 0, slots := 0, locals := 42 } (pn_Pc D cI cJ cZ [.ref a_t, .int p1, .int p2, .int p3, .int p4, .int p5] [(a_t, .inr (0, [.ref a_t_sizes, .ref a_t_cites, .int v_t_notes, .int v_t_version])), (a_t_cites, .inl (cJ, 32, .inr (.inl r_t_cites))), (a_t_sizes, .inl (cI, 8, .inl r_t_sizes))] sz) (pn_Qv D [(a_t, .inr (0, [.ref a_t_sizes, .ref a_t_cites, .int v_t_notes, .int v_t_version])), (a_t_cites, .inl (cJ, 32, .inr (.inl o_t_cites))), (a_t_sizes, .inl (cI, 8, .inl r_t_sizes))] (va_A [(a_t, .inr (0, [.ref a_t_sizes, .ref a_t_cites, .int v_t_notes, .int v_t_version])), (a_t_cites, .inl (cJ, 32, .inr (.inl r_t_cites))), (a_t_sizes, .inl (cI, 8, .inl r_t_sizes))] sz)) 0 0 (va_A [(a_t, .inr (0, [.ref a_t_sizes, .ref a_t_cites, .int v_t_notes, .int v_t_version])), (a_t_cites, .inl (cJ, 32, .inr (.inl r_t_cites))), (a_t_sizes, .inl (cI, 8, .inl r_t_sizes))] sz) := by
  refine pn_entry (cc := cX1_mendNumbers) (maxL := 8) (ret := none) (Qf := pn_Qv D [(a_t, .inr (0, [.ref a_t_sizes, .ref a_t_cites, .int v_t_notes, .int v_t_version])), (a_t_cites, .inl (cJ, 32, .inr (.inl o_t_cites))), (a_t_sizes, .inl (cI, 8, .inl r_t_sizes))]) (by decide) rfl (Nat.le_of_ble_eq_true rfl) ?_
  intro p e s m args below meth c A ls H locs Qm hQ hx hb hr hlocks hml hown hts hK hP hD hA hS hl
  have hl : lv_has ls 8 [(0, .ref a_t), (1, .int p1), (2, .int p2), (3, .int p3), (4, .int p4), (5, .int p5)] := hl
  have hinX1 : ∀ w ∈ wsX10, w ∈ wsX1_mendNumbers := by decide +kernel
  have fl_15 := hts (.fieldLink RX1 15 "PointingNotes$Paper" "cites" "[J") (by decide +kernel)
  rw [f_X1_mendNumbers] at hf
  have lp3 : ∀ (n : Nat) (x6 : Int32) (r_t_cites : Nat → Int64) (X : (Nat → Int64)) (H : Heap) (locs : List Loc) (ls : Array Slot), lp_X1_mendNumbers_3 v_t_notes r_t_sizes p1 p2 p3 p4 p5 n x6 r_t_cites = some X → va_P D vwCl [(a_t, .inr (0, [.ref a_t_sizes, .ref a_t_cites, .int v_t_notes, .int v_t_version])), (a_t_cites, .inl (cJ, 32, .inr (.inl r_t_cites))), (a_t_sizes, .inl (cI, 8, .inl r_t_sizes))] H → va_S A s.heap H locs → lv_has ls 8 [(0, .ref a_t), (1, .int p1), (2, .int p2), (3, .int p3), (4, .int p4), (5, .int p5), (6, .int x6)] → (∀  (r_t_cites' : Nat → Int64) (H : Heap) (locs : List Loc) (ls : Array Slot), X = r_t_cites' → va_P D vwCl [(a_t, .inr (0, [.ref a_t_sizes, .ref a_t_cites, .int v_t_notes, .int v_t_version])), (a_t_cites, .inl (cJ, 32, .inr (.inl (r_t_cites')))), (a_t_sizes, .inl (cI, 8, .inl r_t_sizes))] H → va_S A s.heap H locs → lv_has ls 8 [] → W p l e { frames := 2, cells := 0, slots := 0, locals := 42 } s m args below meth c H locs 0 0 Qm (F0 m 116 ls [])) → W p l e { frames := 2, cells := 0, slots := 0, locals := 42 } s m args below meth c H locs 0 0 Qm (F0 m 3 ls []) := by
    intro n
    induction n with
    | zero => intro x6 r_t_cites X H locs ls hf; cases hf
    | succ n ih =>
      intro x6 r_t_cites X H locs ls hf hP hS hl kx116
      rw [lp_X1_mendNumbers_3] at hf
      refine lv_iload hx hb dX1_mendNumbers_3 (lv_at hl 6 rfl) ?_
      refine lv_bipush (v := (32)) hx hb dX1_mendNumbers_5 (by decide) ?_
      refine lv_icmp_ge (tgt := 116) hx hb dX1_mendNumbers_7 (by decide) (fun c1 => ?_) (fun c1 => ?_)
      · have hf := pn_ifp c1 hf
        exact kx116 r_t_cites H locs ls (Option.some.inj hf).symm hP hS (lv_sub hl [] rfl)
      · have hf := pn_ifn c1 hf
        refine lv_aload_n hx hb dX1_mendNumbers_10 rfl (lv_at hl 0 rfl) ?_
        refine lv_iload hx hb dX1_mendNumbers_11 (lv_at hl 6 rfl) ?_
        obtain ⟨ru2, hu2, hf⟩ := pn_bd1_at hf
        refine pn_calli [0, 2] (va_runV (As := [.int x6]) (rest := []) ⟨hx, hb, hml, hown, hts⟩ (c_X1_hasSlot l D cI cJ cZ a_t a_t_sizes a_t_cites H.size v_t_version v_t_notes r_t_sizes x6 ru2 hu2) (cwV 1 hts gX1_mendNumbers_X1_hasSlot rfl rfl rfl hdX1_hasSlot ⟨Nat.le_of_ble_eq_true rfl, Nat.le_of_ble_eq_true rfl⟩) (pn_preV [0, 2] hP (hD.addr rfl) hK rfl rfl (q0 := 0) (ci := 0) rfl rfl) rfl rfl hl.1 rfl (lv_room (Nat.le_of_ble_eq_true rfl)) dX1_mendNumbers_13 ⟨Nat.zero_le _, Nat.zero_le _⟩) hP (hD.addr rfl) hS hA rfl rfl rfl (fun H locs (hP : va_P D vwCl [(a_t, .inr (0, [.ref a_t_sizes, .ref a_t_cites, .int v_t_notes, .int v_t_version])), (a_t_cites, .inl (cJ, 32, .inr (.inl r_t_cites))), (a_t_sizes, .inl (cI, 8, .inl r_t_sizes))] H) _ hS => ?_)
        refine lv_if_eq (tgt := 110) hx hb dX1_mendNumbers_16 (by decide) (fun c3 => ?_) (fun c3 => ?_)
        · have hf := pn_ifp c3 hf
          obtain ⟨z4, ez4⟩ : ∃ y : Int32, y = x6 + (1) := ⟨_, rfl⟩
          have hf := pn_nm_at ez4 hf
          refine lv_iinc (v := z4) (lv' := [(6, .int z4), (0, .ref a_t), (1, .int p1), (2, .int p2), (3, .int p3), (4, .int p4), (5, .int p5)]) hx hb dX1_mendNumbers_110 hl (k := 6) rfl (by rw [ez4]; rfl) (by decide) rfl (fun ls hl => ?_)
          refine lv_goto (tgt := 3) hx hb dX1_mendNumbers_113 (by decide) ?_
          exact ih z4 r_t_cites X H locs ls hf hP hS (lv_sub hl [1, 2, 3, 4, 5, 6, 0] rfl) kx116
        · have hf := pn_ifn c3 hf
          refine lv_aload_n hx hb dX1_mendNumbers_19 rfl (lv_at hl 0 rfl) ?_
          refine va_get (D := D) (ci := 0) (v := .ref a_t_cites) (C := RX1) (T := TX1) (N := 4) hx hb hts hinX1 hown hK.1 hP 0 rfl rfl 1 (by decide) fl_15 (fun _ h9 => h9) rfl dX1_mendNumbers_20 ?_
          refine lv_iload hx hb dX1_mendNumbers_23 (lv_at hl 6 rfl) ?_
          obtain ⟨hi6, w5, ew5, hf⟩ := pn_rd_at hf
          refine pn_ldJ hx hb hK.1 hP 1 1 rfl rfl hi6 ew5 dX1_mendNumbers_25 ?_
          obtain ⟨ru7, hu7, hf⟩ := pn_bd1_at hf
          refine pn_calli [] (va_runS (As := [.long w5]) (rest := []) ⟨hx, hb, hml, hown, hts⟩ (c_X0_form l D cI cJ cZ H.size w5 ru7 hu7) (va_cwS 1 hts gX1_mendNumbers_X0_form rfl rfl rfl hdX0_form ⟨Nat.le_of_ble_eq_true rfl, Nat.le_of_ble_eq_true rfl⟩) (pn_preS [] hP (hD.addr rfl) hK rfl rfl) rfl rfl hl.1 rfl (lv_room (Nat.le_of_ble_eq_true rfl)) dX1_mendNumbers_26 ⟨Nat.zero_le _, Nat.zero_le _⟩) hP (hD.addr rfl) hS hA rfl rfl rfl (fun H locs (hP : va_P D vwCl [(a_t, .inr (0, [.ref a_t_sizes, .ref a_t_cites, .int v_t_notes, .int v_t_version])), (a_t_cites, .inl (cJ, 32, .inr (.inl r_t_cites))), (a_t_sizes, .inl (cI, 8, .inl r_t_sizes))] H) _ hS => ?_)
          refine lv_iconst (v := (3)) hx hb dX1_mendNumbers_29 (by decide) ?_
          refine lv_icmp_eq (tgt := 36) hx hb dX1_mendNumbers_30 (by decide) (fun c8 => ?_) (fun c8 => ?_)
          · have hf := pn_ifp c8 hf
            refine lv_aload_n hx hb dX1_mendNumbers_36 rfl (lv_at hl 0 rfl) ?_
            refine va_get (D := D) (ci := 0) (v := .ref a_t_cites) (C := RX1) (T := TX1) (N := 4) hx hb hts hinX1 hown hK.1 hP 0 rfl rfl 1 (by decide) fl_15 (fun _ h9 => h9) rfl dX1_mendNumbers_37 ?_
            refine lv_iload hx hb dX1_mendNumbers_40 (lv_at hl 6 rfl) ?_
            obtain ⟨hi10, w9, ew9, hf⟩ := pn_rd_at hf
            refine pn_ldJ hx hb hK.1 hP 1 1 rfl rfl hi10 ew9 dX1_mendNumbers_42 ?_
            obtain ⟨ru11, hu11, hf⟩ := pn_bd1_at hf
            refine pn_calli [] (va_runS (As := [.long w9]) (rest := []) ⟨hx, hb, hml, hown, hts⟩ (c_X0_number l D cI cJ cZ H.size w9 ru11 hu11) (va_cwS 1 hts gX1_mendNumbers_X0_number rfl rfl rfl hdX0_number ⟨Nat.le_of_ble_eq_true rfl, Nat.le_of_ble_eq_true rfl⟩) (pn_preS [] hP (hD.addr rfl) hK rfl rfl) rfl rfl hl.1 rfl (lv_room (Nat.le_of_ble_eq_true rfl)) dX1_mendNumbers_43 ⟨Nat.zero_le _, Nat.zero_le _⟩) hP (hD.addr rfl) hS hA rfl rfl rfl (fun H locs (hP : va_P D vwCl [(a_t, .inr (0, [.ref a_t_sizes, .ref a_t_cites, .int v_t_notes, .int v_t_version])), (a_t_cites, .inl (cJ, 32, .inr (.inl r_t_cites))), (a_t_sizes, .inl (cI, 8, .inl r_t_sizes))] H) _ hS => ?_)
            refine lv_istore (lv' := [(7, .int ru11), (0, .ref a_t), (1, .int p1), (2, .int p2), (3, .int p3), (4, .int p4), (5, .int p5), (6, .int x6)]) hx hb dX1_mendNumbers_46 hl (by decide) rfl (fun ls hl => ?_)
            refine lv_iload hx hb dX1_mendNumbers_48 (lv_at hl 0 rfl) ?_
            refine lv_iload hx hb dX1_mendNumbers_50 (lv_at hl 5 rfl) ?_
            refine lv_icmp_ne (tgt := 77) hx hb dX1_mendNumbers_52 (by decide) (fun c12 => ?_) (fun c12 => ?_)
            · have hf := pn_ifp c12 hf
              refine lv_iload hx hb dX1_mendNumbers_77 (lv_at hl 0 rfl) ?_
              refine lv_iload_n hx hb dX1_mendNumbers_79 rfl (lv_at hl 2 rfl) ?_
              refine lv_icmp_lt (tgt := 110) hx hb dX1_mendNumbers_80 (by decide) (fun c13 => ?_) (fun c13 => ?_)
              · have hf := pn_ifp c13 hf
                obtain ⟨z14, ez14⟩ : ∃ y : Int32, y = x6 + (1) := ⟨_, rfl⟩
                have hf := pn_nm_at ez14 hf
                refine lv_iinc (v := z14) (lv' := [(6, .int z14), (7, .int ru11), (0, .ref a_t), (1, .int p1), (2, .int p2), (3, .int p3), (4, .int p4), (5, .int p5)]) hx hb dX1_mendNumbers_110 hl (k := 7) rfl (by rw [ez14]; rfl) (by decide) rfl (fun ls hl => ?_)
                refine lv_goto (tgt := 3) hx hb dX1_mendNumbers_113 (by decide) ?_
                exact ih z14 r_t_cites X H locs ls hf hP hS (lv_sub hl [2, 3, 4, 5, 6, 7, 0] rfl) kx116
              · have hf := pn_ifn c13 hf
                refine lv_iload hx hb dX1_mendNumbers_83 (lv_at hl 0 rfl) ?_
                refine lv_iload_n hx hb dX1_mendNumbers_85 rfl (lv_at hl 3 rfl) ?_
                refine lv_icmp_gt (tgt := 110) hx hb dX1_mendNumbers_86 (by decide) (fun c15 => ?_) (fun c15 => ?_)
                · have hf := pn_ifp c15 hf
                  obtain ⟨z16, ez16⟩ : ∃ y : Int32, y = x6 + (1) := ⟨_, rfl⟩
                  have hf := pn_nm_at ez16 hf
                  refine lv_iinc (v := z16) (lv' := [(6, .int z16), (7, .int ru11), (0, .ref a_t), (1, .int p1), (2, .int p2), (3, .int p3), (4, .int p4), (5, .int p5)]) hx hb dX1_mendNumbers_110 hl (k := 7) rfl (by rw [ez16]; rfl) (by decide) rfl (fun ls hl => ?_)
                  refine lv_goto (tgt := 3) hx hb dX1_mendNumbers_113 (by decide) ?_
                  exact ih z16 r_t_cites X H locs ls hf hP hS (lv_sub hl [2, 3, 4, 5, 6, 7, 0] rfl) kx116
                · have hf := pn_ifn c15 hf
                  refine lv_aload_n hx hb dX1_mendNumbers_89 rfl (lv_at hl 1 rfl) ?_
                  refine va_get (D := D) (ci := 0) (v := .ref a_t_cites) (C := RX1) (T := TX1) (N := 4) hx hb hts hinX1 hown hK.1 hP 0 rfl rfl 1 (by decide) fl_15 (fun _ h9 => h9) rfl dX1_mendNumbers_90 ?_
                  refine lv_iload hx hb dX1_mendNumbers_93 (lv_at hl 7 rfl) ?_
                  refine lv_aload_n hx hb dX1_mendNumbers_95 rfl (lv_at hl 1 rfl) ?_
                  refine va_get (D := D) (ci := 0) (v := .ref a_t_cites) (C := RX1) (T := TX1) (N := 4) hx hb hts hinX1 hown hK.1 hP 0 rfl rfl 1 (by decide) fl_15 (fun _ h9 => h9) rfl dX1_mendNumbers_96 ?_
                  refine lv_iload hx hb dX1_mendNumbers_99 (lv_at hl 7 rfl) ?_
                  obtain ⟨hi18, w17, ew17, hf⟩ := pn_rd_at hf
                  refine pn_ldJ hx hb hK.1 hP 1 1 rfl rfl hi18 ew17 dX1_mendNumbers_101 ?_
                  refine lv_iload hx hb dX1_mendNumbers_102 (lv_at hl 0 rfl) ?_
                  refine lv_iload_n hx hb dX1_mendNumbers_104 rfl (lv_at hl 4 rfl) ?_
                  refine lv_iadd hx hb dX1_mendNumbers_105 ?_
                  obtain ⟨ru19, hu19, hf⟩ := pn_bd1_at hf
                  refine pn_calll [] (va_runS (As := [.long w17, .int (ru11 + p3)]) (rest := [.int x6, .ref a_t_cites]) ⟨hx, hb, hml, hown, hts⟩ (c_X0_withNumber l D cI cJ cZ H.size w17 (ru11 + p3) ru19 hu19) (va_cwS 2 hts gX1_mendNumbers_X0_withNumber rfl rfl rfl hdX0_withNumber ⟨Nat.le_of_ble_eq_true rfl, Nat.le_of_ble_eq_true rfl⟩) (pn_preS [] hP (hD.addr rfl) hK rfl rfl) rfl rfl hl.1 rfl (lv_room (Nat.le_of_ble_eq_true rfl)) dX1_mendNumbers_106 ⟨Nat.zero_le _, Nat.zero_le _⟩) hP (hD.addr rfl) hS hA rfl rfl rfl (fun H locs (hP : va_P D vwCl [(a_t, .inr (0, [.ref a_t_sizes, .ref a_t_cites, .int v_t_notes, .int v_t_version])), (a_t_cites, .inl (cJ, 32, .inr (.inl r_t_cites))), (a_t_sizes, .inl (cI, 8, .inl r_t_sizes))] H) _ hS => ?_)
                  obtain ⟨hi21, g20, eg20, hf⟩ := pn_wrJ_at hf
                  refine pn_stJ hx hb hK.1 hP (hD.addr rfl) hS 1 1 rfl rfl hi21 eg20 dX1_mendNumbers_109 (fun H locs (hP : va_P D vwCl [(a_t, .inr (0, [.ref a_t_sizes, .ref a_t_cites, .int v_t_notes, .int v_t_version])), (a_t_cites, .inl (cJ, 32, .inr (.inl g20))), (a_t_sizes, .inl (cI, 8, .inl r_t_sizes))] H) _ hS => ?_)
                  obtain ⟨z22, ez22⟩ : ∃ y : Int32, y = x6 + (1) := ⟨_, rfl⟩
                  have hf := pn_nm_at ez22 hf
                  refine lv_iinc (v := z22) (lv' := [(6, .int z22), (7, .int ru11), (0, .ref a_t), (1, .int p1), (2, .int p2), (3, .int p3), (4, .int p4), (5, .int p5)]) hx hb dX1_mendNumbers_110 hl (k := 7) rfl (by rw [ez22]; rfl) (by decide) rfl (fun ls hl => ?_)
                  refine lv_goto (tgt := 3) hx hb dX1_mendNumbers_113 (by decide) ?_
                  exact ih z22 g20 X H locs ls hf hP hS (lv_sub hl [2, 3, 4, 5, 6, 7, 0] rfl) kx116
            · have hf := pn_ifq c12 hf
              refine lv_aload_n hx hb dX1_mendNumbers_55 rfl (lv_at hl 1 rfl) ?_
              refine va_get (D := D) (ci := 0) (v := .ref a_t_cites) (C := RX1) (T := TX1) (N := 4) hx hb hts hinX1 hown hK.1 hP 0 rfl rfl 1 (by decide) fl_15 (fun _ h9 => h9) rfl dX1_mendNumbers_56 ?_
              refine lv_iload hx hb dX1_mendNumbers_59 (lv_at hl 7 rfl) ?_
              refine lv_aload_n hx hb dX1_mendNumbers_61 rfl (lv_at hl 1 rfl) ?_
              refine va_get (D := D) (ci := 0) (v := .ref a_t_cites) (C := RX1) (T := TX1) (N := 4) hx hb hts hinX1 hown hK.1 hP 0 rfl rfl 1 (by decide) fl_15 (fun _ h9 => h9) rfl dX1_mendNumbers_62 ?_
              refine lv_iload hx hb dX1_mendNumbers_65 (lv_at hl 7 rfl) ?_
              obtain ⟨hi24, w23, ew23, hf⟩ := pn_rd_at hf
              refine pn_ldJ hx hb hK.1 hP 1 1 rfl rfl hi24 ew23 dX1_mendNumbers_67 ?_
              refine lv_iload hx hb dX1_mendNumbers_68 (lv_at hl 6 rfl) ?_
              obtain ⟨ru25, hu25, hf⟩ := pn_bd1_at hf
              refine pn_calll [] (va_runS (As := [.long w23, .int p5]) (rest := [.int x6, .ref a_t_cites]) ⟨hx, hb, hml, hown, hts⟩ (c_X0_withNumber l D cI cJ cZ H.size w23 p5 ru25 hu25) (va_cwS 2 hts gX1_mendNumbers_X0_withNumber rfl rfl rfl hdX0_withNumber ⟨Nat.le_of_ble_eq_true rfl, Nat.le_of_ble_eq_true rfl⟩) (pn_preS [] hP (hD.addr rfl) hK rfl rfl) rfl rfl hl.1 rfl (lv_room (Nat.le_of_ble_eq_true rfl)) dX1_mendNumbers_70 ⟨Nat.zero_le _, Nat.zero_le _⟩) hP (hD.addr rfl) hS hA rfl rfl rfl (fun H locs (hP : va_P D vwCl [(a_t, .inr (0, [.ref a_t_sizes, .ref a_t_cites, .int v_t_notes, .int v_t_version])), (a_t_cites, .inl (cJ, 32, .inr (.inl r_t_cites))), (a_t_sizes, .inl (cI, 8, .inl r_t_sizes))] H) _ hS => ?_)
              obtain ⟨hi27, g26, eg26, hf⟩ := pn_wrJ_at hf
              refine pn_stJ hx hb hK.1 hP (hD.addr rfl) hS 1 1 rfl rfl hi27 eg26 dX1_mendNumbers_73 (fun H locs (hP : va_P D vwCl [(a_t, .inr (0, [.ref a_t_sizes, .ref a_t_cites, .int v_t_notes, .int v_t_version])), (a_t_cites, .inl (cJ, 32, .inr (.inl g26))), (a_t_sizes, .inl (cI, 8, .inl r_t_sizes))] H) _ hS => ?_)
              refine lv_goto (tgt := 110) hx hb dX1_mendNumbers_74 (by decide) ?_
              obtain ⟨z28, ez28⟩ : ∃ y : Int32, y = x6 + (1) := ⟨_, rfl⟩
              have hf := pn_nm_at ez28 hf
              refine lv_iinc (v := z28) (lv' := [(6, .int z28), (7, .int ru11), (0, .ref a_t), (1, .int p1), (2, .int p2), (3, .int p3), (4, .int p4), (5, .int p5)]) hx hb dX1_mendNumbers_110 hl (k := 7) rfl (by rw [ez28]; rfl) (by decide) rfl (fun ls hl => ?_)
              refine lv_goto (tgt := 3) hx hb dX1_mendNumbers_113 (by decide) ?_
              exact ih z28 g26 X H locs ls hf hP hS (lv_sub hl [2, 3, 4, 5, 6, 7, 0] rfl) kx116
          · have hf := pn_ifn c8 hf
            refine lv_goto (tgt := 110) hx hb dX1_mendNumbers_33 (by decide) ?_
            obtain ⟨z29, ez29⟩ : ∃ y : Int32, y = x6 + (1) := ⟨_, rfl⟩
            have hf := pn_nm_at ez29 hf
            refine lv_iinc (v := z29) (lv' := [(6, .int z29), (0, .ref a_t), (1, .int p1), (2, .int p2), (3, .int p3), (4, .int p4), (5, .int p5)]) hx hb dX1_mendNumbers_110 hl (k := 6) rfl (by rw [ez29]; rfl) (by decide) rfl (fun ls hl => ?_)
            refine lv_goto (tgt := 3) hx hb dX1_mendNumbers_113 (by decide) ?_
            exact ih z29 r_t_cites X H locs ls hf hP hS (lv_sub hl [1, 2, 3, 4, 5, 6, 0] rfl) kx116
  refine lv_iconst (v := (0)) hx hb dX1_mendNumbers_0 (by decide) ?_
  refine lv_istore (lv' := [(6, .int (0 : Int32)), (0, .ref a_t), (1, .int p1), (2, .int p2), (3, .int p3), (4, .int p4), (5, .int p5)]) hx hb dX1_mendNumbers_1 hl (by decide) rfl (fun ls hl => ?_)
  obtain ⟨X3, hX3, hf⟩ := pn_bd1_at hf
  refine lp3 N (0 : Int32) r_t_cites X3 H locs ls hX3 hP hS (lv_sub hl [1, 2, 3, 4, 5, 6, 0] rfl) ?_
  · intro r_t_cites_w30 H locs ls eX hP hS hl
    rw [eX] at hf
    have hf := pn_u1_at hf
    cases hf
    rw [hQ]
    exact pn_retv hx hb hr hlocks hP hS dX1_mendNumbers_116
def lp_X1_swapWithNext_43 (p1 : Int32) : Nat → Int32 → (Nat → Int64) → Option ((Nat → Int64))
  | 0, _, _ => none
  | n + 1, x3, r_t_cites =>
    if (4 : Int32) ≤ x3 then
  some r_t_cites
  else
  pn_bd1 (f_X1_slotOf p1 x3) fun ru2 =>
  pn_rd 32 r_t_cites ru2 fun w3 =>
  pn_rd 32 r_t_cites (ru2 + (4 : Int32)) fun w5 =>
  pn_wrJ 32 r_t_cites ru2 w5 fun g7 =>
  pn_wrJ 32 g7 (ru2 + (4 : Int32)) w3 fun g9 =>
  pn_nm (x3 + (1 : Int32)) fun z11 =>
  lp_X1_swapWithNext_43 p1 n z11 g9
def f_X1_swapWithNext (N : Nat) (r_t_cites : Nat → Int64) (r_t_sizes : Nat → Int32) (p1 : Int32) : Option ((Nat → Int64) × (Nat → Int32)) :=
  if p1 < 0 then
  some (r_t_cites, r_t_sizes)
  else
  if p1 < (7 : Int32) then
  pn_rd 8 r_t_sizes p1 fun w14 =>
  pn_rd 8 r_t_sizes (p1 + (1 : Int32)) fun w16 =>
  pn_wrI 8 r_t_sizes p1 w16 fun g18 =>
  pn_wrI 8 g18 (p1 + (1 : Int32)) w14 fun g20 =>
  pn_bd1 (lp_X1_swapWithNext_43 p1 N (0 : Int32) r_t_cites) (fun X43 => (pn_u1 fun r_t_cites_w22 => some (r_t_cites_w22, g20)) X43)
  else
  some (r_t_cites, r_t_sizes)
set_option maxHeartbeats 4000000 in
set_option maxRecDepth 100000 in
theorem c_X1_swapWithNext (l : Launch) (D : va_G) (cI cJ cZ : ClassId) (a_t a_t_sizes a_t_cites : Nat) (sz : Nat) (v_t_notes : Int32) (v_t_version : Int32) (N : Nat) (r_t_cites : Nat → Int64) (r_t_sizes : Nat → Int32) (p1 : Int32) (o_t_cites : Nat → Int64) (o_t_sizes : Nat → Int32) (hf : f_X1_swapWithNext N r_t_cites r_t_sizes p1 = some (o_t_cites, o_t_sizes)) : Met l yX1_swapWithNext wsX1_swapWithNext { frames := 1, cells := 0, slots := 0, locals := 21 } (pn_Pc D cI cJ cZ [.ref a_t, .int p1] [(a_t, .inr (0, [.ref a_t_sizes, .ref a_t_cites, .int v_t_notes, .int v_t_version])), (a_t_cites, .inl (cJ, 32, .inr (.inl r_t_cites))), (a_t_sizes, .inl (cI, 8, .inl r_t_sizes))] sz) (pn_Qv D [(a_t, .inr (0, [.ref a_t_sizes, .ref a_t_cites, .int v_t_notes, .int v_t_version])), (a_t_cites, .inl (cJ, 32, .inr (.inl o_t_cites))), (a_t_sizes, .inl (cI, 8, .inl o_t_sizes))] (va_A [(a_t, .inr (0, [.ref a_t_sizes, .ref a_t_cites, .int v_t_notes, .int v_t_version])), (a_t_cites, .inl (cJ, 32, .inr (.inl r_t_cites))), (a_t_sizes, .inl (cI, 8, .inl r_t_sizes))] sz)) 0 0 (va_A [(a_t, .inr (0, [.ref a_t_sizes, .ref a_t_cites, .int v_t_notes, .int v_t_version])), (a_t_cites, .inl (cJ, 32, .inr (.inl r_t_cites))), (a_t_sizes, .inl (cI, 8, .inl r_t_sizes))] sz) := by
  refine pn_entry (cc := cX1_swapWithNext) (maxL := 7) (ret := none) (Qf := pn_Qv D [(a_t, .inr (0, [.ref a_t_sizes, .ref a_t_cites, .int v_t_notes, .int v_t_version])), (a_t_cites, .inl (cJ, 32, .inr (.inl o_t_cites))), (a_t_sizes, .inl (cI, 8, .inl o_t_sizes))]) (by decide) rfl (Nat.le_of_ble_eq_true rfl) ?_
  intro p e s m args below meth c A ls H locs Qm hQ hx hb hr hlocks hml hown hts hK hP hD hA hS hl
  have hl : lv_has ls 7 [(0, .ref a_t), (1, .int p1)] := hl
  have hinX1 : ∀ w ∈ wsX10, w ∈ wsX1_swapWithNext := by decide +kernel
  have fl_9 := hts (.fieldLink RX1 9 "PointingNotes$Paper" "sizes" "[I") (by decide +kernel)
  have fl_15 := hts (.fieldLink RX1 15 "PointingNotes$Paper" "cites" "[J") (by decide +kernel)
  rw [f_X1_swapWithNext] at hf
  have lp43 : ∀ (n : Nat) (x3 : Int32) (r_t_cites : Nat → Int64) (r_t_sizes : Nat → Int32) (X : (Nat → Int64)) (H : Heap) (locs : List Loc) (ls : Array Slot), lp_X1_swapWithNext_43 p1 n x3 r_t_cites = some X → va_P D vwCl [(a_t, .inr (0, [.ref a_t_sizes, .ref a_t_cites, .int v_t_notes, .int v_t_version])), (a_t_cites, .inl (cJ, 32, .inr (.inl r_t_cites))), (a_t_sizes, .inl (cI, 8, .inl r_t_sizes))] H → va_S A s.heap H locs → lv_has ls 7 [(0, .ref a_t), (1, .int p1), (3, .int x3)] → (∀  (r_t_cites' : Nat → Int64) (H : Heap) (locs : List Loc) (ls : Array Slot), X = r_t_cites' → va_P D vwCl [(a_t, .inr (0, [.ref a_t_sizes, .ref a_t_cites, .int v_t_notes, .int v_t_version])), (a_t_cites, .inl (cJ, 32, .inr (.inl (r_t_cites')))), (a_t_sizes, .inl (cI, 8, .inl r_t_sizes))] H → va_S A s.heap H locs → lv_has ls 7 [] → W p l e { frames := 1, cells := 0, slots := 0, locals := 21 } s m args below meth c H locs 0 0 Qm (F0 m 97 ls [])) → W p l e { frames := 1, cells := 0, slots := 0, locals := 21 } s m args below meth c H locs 0 0 Qm (F0 m 43 ls []) := by
    intro n
    induction n with
    | zero => intro x3 r_t_cites r_t_sizes X H locs ls hf; cases hf
    | succ n ih =>
      intro x3 r_t_cites r_t_sizes X H locs ls hf hP hS hl kx97
      rw [lp_X1_swapWithNext_43] at hf
      refine lv_iload_n hx hb dX1_swapWithNext_43 rfl (lv_at hl 2 rfl) ?_
      refine lv_iconst (v := (4)) hx hb dX1_swapWithNext_44 (by decide) ?_
      refine lv_icmp_ge (tgt := 97) hx hb dX1_swapWithNext_45 (by decide) (fun c1 => ?_) (fun c1 => ?_)
      · have hf := pn_ifp c1 hf
        exact kx97 r_t_cites H locs ls (Option.some.inj hf).symm hP hS (lv_sub hl [] rfl)
      · have hf := pn_ifn c1 hf
        refine lv_iload_n hx hb dX1_swapWithNext_48 rfl (lv_at hl 1 rfl) ?_
        refine lv_iload_n hx hb dX1_swapWithNext_49 rfl (lv_at hl 2 rfl) ?_
        obtain ⟨ru2, hu2, hf⟩ := pn_bd1_at hf
        refine pn_calli [] (va_runS (As := [.int p1, .int x3]) (rest := []) ⟨hx, hb, hml, hown, hts⟩ (c_X1_slotOf l D cI cJ cZ H.size p1 x3 ru2 hu2) (va_cwS 2 hts gX1_swapWithNext_X1_slotOf rfl rfl rfl hdX1_slotOf ⟨Nat.le_of_ble_eq_true rfl, Nat.le_of_ble_eq_true rfl⟩) (pn_preS [] hP (hD.addr rfl) hK rfl rfl) rfl rfl hl.1 rfl (lv_room (Nat.le_of_ble_eq_true rfl)) dX1_swapWithNext_50 ⟨Nat.zero_le _, Nat.zero_le _⟩) hP (hD.addr rfl) hS hA rfl rfl rfl (fun H locs (hP : va_P D vwCl [(a_t, .inr (0, [.ref a_t_sizes, .ref a_t_cites, .int v_t_notes, .int v_t_version])), (a_t_cites, .inl (cJ, 32, .inr (.inl r_t_cites))), (a_t_sizes, .inl (cI, 8, .inl r_t_sizes))] H) _ hS => ?_)
        refine lv_istore (lv' := [(4, .int ru2), (0, .ref a_t), (1, .int p1), (3, .int x3)]) hx hb dX1_swapWithNext_53 hl (by decide) rfl (fun ls hl => ?_)
        refine lv_aload_n hx hb dX1_swapWithNext_55 rfl (lv_at hl 1 rfl) ?_
        refine va_get (D := D) (ci := 0) (v := .ref a_t_cites) (C := RX1) (T := TX1) (N := 4) hx hb hts hinX1 hown hK.1 hP 0 rfl rfl 1 (by decide) fl_15 (fun _ h9 => h9) rfl dX1_swapWithNext_56 ?_
        refine lv_iload hx hb dX1_swapWithNext_59 (lv_at hl 0 rfl) ?_
        obtain ⟨hi4, w3, ew3, hf⟩ := pn_rd_at hf
        refine pn_ldJ hx hb hK.1 hP 1 1 rfl rfl hi4 ew3 dX1_swapWithNext_61 ?_
        refine lv_lstore (lv' := [(5, .long w3), (4, .int ru2), (0, .ref a_t), (1, .int p1), (3, .int x3)]) hx hb dX1_swapWithNext_62 hl (by decide) rfl (fun ls hl => ?_)
        refine lv_aload_n hx hb dX1_swapWithNext_64 rfl (lv_at hl 2 rfl) ?_
        refine va_get (D := D) (ci := 0) (v := .ref a_t_cites) (C := RX1) (T := TX1) (N := 4) hx hb hts hinX1 hown hK.1 hP 0 rfl rfl 1 (by decide) fl_15 (fun _ h9 => h9) rfl dX1_swapWithNext_65 ?_
        refine lv_iload hx hb dX1_swapWithNext_68 (lv_at hl 1 rfl) ?_
        refine lv_aload_n hx hb dX1_swapWithNext_70 rfl (lv_at hl 2 rfl) ?_
        refine va_get (D := D) (ci := 0) (v := .ref a_t_cites) (C := RX1) (T := TX1) (N := 4) hx hb hts hinX1 hown hK.1 hP 0 rfl rfl 1 (by decide) fl_15 (fun _ h9 => h9) rfl dX1_swapWithNext_71 ?_
        refine lv_iload hx hb dX1_swapWithNext_74 (lv_at hl 1 rfl) ?_
        refine lv_iconst (v := (4)) hx hb dX1_swapWithNext_76 (by decide) ?_
        refine lv_iadd hx hb dX1_swapWithNext_77 ?_
        obtain ⟨hi6, w5, ew5, hf⟩ := pn_rd_at hf
        refine pn_ldJ hx hb hK.1 hP 1 1 rfl rfl hi6 ew5 dX1_swapWithNext_78 ?_
        obtain ⟨hi8, g7, eg7, hf⟩ := pn_wrJ_at hf
        refine pn_stJ hx hb hK.1 hP (hD.addr rfl) hS 1 1 rfl rfl hi8 eg7 dX1_swapWithNext_79 (fun H locs (hP : va_P D vwCl [(a_t, .inr (0, [.ref a_t_sizes, .ref a_t_cites, .int v_t_notes, .int v_t_version])), (a_t_cites, .inl (cJ, 32, .inr (.inl g7))), (a_t_sizes, .inl (cI, 8, .inl r_t_sizes))] H) _ hS => ?_)
        refine lv_aload_n hx hb dX1_swapWithNext_80 rfl (lv_at hl 2 rfl) ?_
        refine va_get (D := D) (ci := 0) (v := .ref a_t_cites) (C := RX1) (T := TX1) (N := 4) hx hb hts hinX1 hown hK.1 hP 0 rfl rfl 1 (by decide) fl_15 (fun _ h9 => h9) rfl dX1_swapWithNext_81 ?_
        refine lv_iload hx hb dX1_swapWithNext_84 (lv_at hl 1 rfl) ?_
        refine lv_iconst (v := (4)) hx hb dX1_swapWithNext_86 (by decide) ?_
        refine lv_iadd hx hb dX1_swapWithNext_87 ?_
        refine lv_lload hx hb dX1_swapWithNext_88 (lv_at hl 0 rfl) ?_
        obtain ⟨hi10, g9, eg9, hf⟩ := pn_wrJ_at hf
        refine pn_stJ hx hb hK.1 hP (hD.addr rfl) hS 1 1 rfl rfl hi10 eg9 dX1_swapWithNext_90 (fun H locs (hP : va_P D vwCl [(a_t, .inr (0, [.ref a_t_sizes, .ref a_t_cites, .int v_t_notes, .int v_t_version])), (a_t_cites, .inl (cJ, 32, .inr (.inl g9))), (a_t_sizes, .inl (cI, 8, .inl r_t_sizes))] H) _ hS => ?_)
        obtain ⟨z11, ez11⟩ : ∃ y : Int32, y = x3 + (1) := ⟨_, rfl⟩
        have hf := pn_nm_at ez11 hf
        refine lv_iinc (v := z11) (lv' := [(3, .int z11), (5, .long w3), (4, .int ru2), (0, .ref a_t), (1, .int p1)]) hx hb dX1_swapWithNext_91 hl (k := 4) rfl (by rw [ez11]; rfl) (by decide) rfl (fun ls hl => ?_)
        refine lv_goto (tgt := 43) hx hb dX1_swapWithNext_94 (by decide) ?_
        exact ih z11 g9 r_t_sizes X H locs ls hf hP hS (lv_sub hl [3, 4, 0] rfl) kx97
  refine lv_iload_n hx hb dX1_swapWithNext_0 rfl (lv_at hl 1 rfl) ?_
  refine lv_if_lt (tgt := 10) hx hb dX1_swapWithNext_1 (by decide) (fun c12 => ?_) (fun c12 => ?_)
  · have hf := pn_ifp c12 hf
    cases hf
    rw [hQ]
    exact pn_retv hx hb hr hlocks hP hS dX1_swapWithNext_10
  · have hf := pn_ifn c12 hf
    refine lv_iload_n hx hb dX1_swapWithNext_4 rfl (lv_at hl 1 rfl) ?_
    refine lv_bipush (v := (7)) hx hb dX1_swapWithNext_5 (by decide) ?_
    refine lv_icmp_lt (tgt := 11) hx hb dX1_swapWithNext_7 (by decide) (fun c13 => ?_) (fun c13 => ?_)
    · have hf := pn_ifp c13 hf
      refine lv_aload_n hx hb dX1_swapWithNext_11 rfl (lv_at hl 0 rfl) ?_
      refine va_get (D := D) (ci := 0) (v := .ref a_t_sizes) (C := RX1) (T := TX1) (N := 4) hx hb hts hinX1 hown hK.1 hP 0 rfl rfl 0 (by decide) fl_9 (fun _ h9 => h9) rfl dX1_swapWithNext_12 ?_
      refine lv_iload_n hx hb dX1_swapWithNext_15 rfl (lv_at hl 1 rfl) ?_
      obtain ⟨hi15, w14, ew14, hf⟩ := pn_rd_at hf
      refine pn_ldI hx hb hK.1 hP 2 0 rfl rfl hi15 ew14 dX1_swapWithNext_16 ?_
      refine lv_istore_n (lv' := [(2, .int w14), (0, .ref a_t), (1, .int p1)]) hx hb dX1_swapWithNext_17 rfl hl (by decide) rfl (fun ls hl => ?_)
      refine lv_aload_n hx hb dX1_swapWithNext_18 rfl (lv_at hl 1 rfl) ?_
      refine va_get (D := D) (ci := 0) (v := .ref a_t_sizes) (C := RX1) (T := TX1) (N := 4) hx hb hts hinX1 hown hK.1 hP 0 rfl rfl 0 (by decide) fl_9 (fun _ h9 => h9) rfl dX1_swapWithNext_19 ?_
      refine lv_iload_n hx hb dX1_swapWithNext_22 rfl (lv_at hl 2 rfl) ?_
      refine lv_aload_n hx hb dX1_swapWithNext_23 rfl (lv_at hl 1 rfl) ?_
      refine va_get (D := D) (ci := 0) (v := .ref a_t_sizes) (C := RX1) (T := TX1) (N := 4) hx hb hts hinX1 hown hK.1 hP 0 rfl rfl 0 (by decide) fl_9 (fun _ h9 => h9) rfl dX1_swapWithNext_24 ?_
      refine lv_iload_n hx hb dX1_swapWithNext_27 rfl (lv_at hl 2 rfl) ?_
      refine lv_iconst (v := (1)) hx hb dX1_swapWithNext_28 (by decide) ?_
      refine lv_iadd hx hb dX1_swapWithNext_29 ?_
      obtain ⟨hi17, w16, ew16, hf⟩ := pn_rd_at hf
      refine pn_ldI hx hb hK.1 hP 2 0 rfl rfl hi17 ew16 dX1_swapWithNext_30 ?_
      obtain ⟨hi19, g18, eg18, hf⟩ := pn_wrI_at hf
      refine pn_stI hx hb hK.1 hP (hD.addr rfl) hS 2 0 rfl rfl hi19 eg18 dX1_swapWithNext_31 (fun H locs (hP : va_P D vwCl [(a_t, .inr (0, [.ref a_t_sizes, .ref a_t_cites, .int v_t_notes, .int v_t_version])), (a_t_cites, .inl (cJ, 32, .inr (.inl r_t_cites))), (a_t_sizes, .inl (cI, 8, .inl g18))] H) _ hS => ?_)
      refine lv_aload_n hx hb dX1_swapWithNext_32 rfl (lv_at hl 1 rfl) ?_
      refine va_get (D := D) (ci := 0) (v := .ref a_t_sizes) (C := RX1) (T := TX1) (N := 4) hx hb hts hinX1 hown hK.1 hP 0 rfl rfl 0 (by decide) fl_9 (fun _ h9 => h9) rfl dX1_swapWithNext_33 ?_
      refine lv_iload_n hx hb dX1_swapWithNext_36 rfl (lv_at hl 2 rfl) ?_
      refine lv_iconst (v := (1)) hx hb dX1_swapWithNext_37 (by decide) ?_
      refine lv_iadd hx hb dX1_swapWithNext_38 ?_
      refine lv_iload_n hx hb dX1_swapWithNext_39 rfl (lv_at hl 0 rfl) ?_
      obtain ⟨hi21, g20, eg20, hf⟩ := pn_wrI_at hf
      refine pn_stI hx hb hK.1 hP (hD.addr rfl) hS 2 0 rfl rfl hi21 eg20 dX1_swapWithNext_40 (fun H locs (hP : va_P D vwCl [(a_t, .inr (0, [.ref a_t_sizes, .ref a_t_cites, .int v_t_notes, .int v_t_version])), (a_t_cites, .inl (cJ, 32, .inr (.inl r_t_cites))), (a_t_sizes, .inl (cI, 8, .inl g20))] H) _ hS => ?_)
      refine lv_iconst (v := (0)) hx hb dX1_swapWithNext_41 (by decide) ?_
      refine lv_istore_n (lv' := [(3, .int (0 : Int32)), (2, .int w14), (0, .ref a_t), (1, .int p1)]) hx hb dX1_swapWithNext_42 rfl hl (by decide) rfl (fun ls hl => ?_)
      obtain ⟨X43, hX43, hf⟩ := pn_bd1_at hf
      refine lp43 N (0 : Int32) r_t_cites g20 X43 H locs ls hX43 hP hS (lv_sub hl [2, 3, 0] rfl) ?_
      · intro r_t_cites_w22 H locs ls eX hP hS hl
        rw [eX] at hf
        have hf := pn_u1_at hf
        cases hf
        rw [hQ]
        exact pn_retv hx hb hr hlocks hP hS dX1_swapWithNext_97
    · have hf := pn_ifn c13 hf
      cases hf
      rw [hQ]
      exact pn_retv hx hb hr hlocks hP hS dX1_swapWithNext_10
def lp_X1_rotateNotes_2 (N : Nat) (p2 : Int32) : Nat → Int32 → (Nat → Int64) → (Nat → Int32) → Option ((Nat → Int64) × (Nat → Int32))
  | 0, _, _, _ => none
  | n + 1, x3, r_t_cites, r_t_sizes =>
    if p2 ≤ x3 then
  some (r_t_cites, r_t_sizes)
  else
  pn_bd2 (f_X1_swapWithNext N r_t_cites r_t_sizes x3) fun r_t_cites_u2 r_t_sizes_u2 =>
  pn_nm (x3 + (1 : Int32)) fun z3 =>
  lp_X1_rotateNotes_2 N p2 n z3 r_t_cites_u2 r_t_sizes_u2
def lp_X1_rotateNotes_22 (N : Nat) (p2 : Int32) : Nat → Int32 → (Nat → Int64) → (Nat → Int32) → Option ((Nat → Int64) × (Nat → Int32))
  | 0, _, _, _ => none
  | n + 1, x3, r_t_cites, r_t_sizes =>
    if x3 < p2 then
  some (r_t_cites, r_t_sizes)
  else
  pn_bd2 (f_X1_swapWithNext N r_t_cites r_t_sizes x3) fun r_t_cites_u5 r_t_sizes_u5 =>
  pn_nm (x3 + (-1 : Int32)) fun z6 =>
  lp_X1_rotateNotes_22 N p2 n z6 r_t_cites_u5 r_t_sizes_u5
def f_X1_rotateNotes (N : Nat) (r_t_cites : Nat → Int64) (r_t_sizes : Nat → Int32) (p1 : Int32) (p2 : Int32) : Option ((Nat → Int64) × (Nat → Int32)) :=
  pn_bd1 (lp_X1_rotateNotes_2 N p2 N p1 r_t_cites r_t_sizes) (fun X2 => (pn_u2 fun r_t_cites_w7 r_t_sizes_w7 => pn_nm (p1 - (1 : Int32)) fun z8 =>
  pn_bd1 (lp_X1_rotateNotes_22 N p2 N z8 r_t_cites_w7 r_t_sizes_w7) (fun X22 => (pn_u2 fun r_t_cites_w9 r_t_sizes_w9 => some (r_t_cites_w9, r_t_sizes_w9)) X22)) X2)
set_option maxHeartbeats 4000000 in
set_option maxRecDepth 100000 in
theorem c_X1_rotateNotes (l : Launch) (D : va_G) (cI cJ cZ : ClassId) (a_t a_t_sizes a_t_cites : Nat) (sz : Nat) (v_t_notes : Int32) (v_t_version : Int32) (N : Nat) (r_t_cites : Nat → Int64) (r_t_sizes : Nat → Int32) (p1 : Int32) (p2 : Int32) (o_t_cites : Nat → Int64) (o_t_sizes : Nat → Int32) (hf : f_X1_rotateNotes N r_t_cites r_t_sizes p1 p2 = some (o_t_cites, o_t_sizes)) : Met l yX1_rotateNotes wsX1_rotateNotes { frames := 2, cells := 0, slots := 0, locals := 47 } (pn_Pc D cI cJ cZ [.ref a_t, .int p1, .int p2] [(a_t, .inr (0, [.ref a_t_sizes, .ref a_t_cites, .int v_t_notes, .int v_t_version])), (a_t_cites, .inl (cJ, 32, .inr (.inl r_t_cites))), (a_t_sizes, .inl (cI, 8, .inl r_t_sizes))] sz) (pn_Qv D [(a_t, .inr (0, [.ref a_t_sizes, .ref a_t_cites, .int v_t_notes, .int v_t_version])), (a_t_cites, .inl (cJ, 32, .inr (.inl o_t_cites))), (a_t_sizes, .inl (cI, 8, .inl o_t_sizes))] (va_A [(a_t, .inr (0, [.ref a_t_sizes, .ref a_t_cites, .int v_t_notes, .int v_t_version])), (a_t_cites, .inl (cJ, 32, .inr (.inl r_t_cites))), (a_t_sizes, .inl (cI, 8, .inl r_t_sizes))] sz)) 0 0 (va_A [(a_t, .inr (0, [.ref a_t_sizes, .ref a_t_cites, .int v_t_notes, .int v_t_version])), (a_t_cites, .inl (cJ, 32, .inr (.inl r_t_cites))), (a_t_sizes, .inl (cI, 8, .inl r_t_sizes))] sz) := by
  refine pn_entry (cc := cX1_rotateNotes) (maxL := 4) (ret := none) (Qf := pn_Qv D [(a_t, .inr (0, [.ref a_t_sizes, .ref a_t_cites, .int v_t_notes, .int v_t_version])), (a_t_cites, .inl (cJ, 32, .inr (.inl o_t_cites))), (a_t_sizes, .inl (cI, 8, .inl o_t_sizes))]) (by decide) rfl (Nat.le_of_ble_eq_true rfl) ?_
  intro p e s m args below meth c A ls H locs Qm hQ hx hb hr hlocks hml hown hts hK hP hD hA hS hl
  have hl : lv_has ls 4 [(0, .ref a_t), (1, .int p1), (2, .int p2)] := hl
  rw [f_X1_rotateNotes] at hf
  have lp2 : ∀ (n : Nat) (x3 : Int32) (r_t_cites : Nat → Int64) (r_t_sizes : Nat → Int32) (X : (Nat → Int64) × (Nat → Int32)) (H : Heap) (locs : List Loc) (ls : Array Slot), lp_X1_rotateNotes_2 N p2 n x3 r_t_cites r_t_sizes = some X → va_P D vwCl [(a_t, .inr (0, [.ref a_t_sizes, .ref a_t_cites, .int v_t_notes, .int v_t_version])), (a_t_cites, .inl (cJ, 32, .inr (.inl r_t_cites))), (a_t_sizes, .inl (cI, 8, .inl r_t_sizes))] H → va_S A s.heap H locs → lv_has ls 4 [(0, .ref a_t), (1, .int p1), (2, .int p2), (3, .int x3)] → (∀  (r_t_cites' : Nat → Int64) (r_t_sizes' : Nat → Int32) (H : Heap) (locs : List Loc) (ls : Array Slot), X = (r_t_cites', r_t_sizes') → va_P D vwCl [(a_t, .inr (0, [.ref a_t_sizes, .ref a_t_cites, .int v_t_notes, .int v_t_version])), (a_t_cites, .inl (cJ, 32, .inr (.inl (r_t_cites')))), (a_t_sizes, .inl (cI, 8, .inl (r_t_sizes')))] H → va_S A s.heap H locs → lv_has ls 4 [(0, .ref a_t), (1, .int p1), (2, .int p2)] → W p l e { frames := 2, cells := 0, slots := 0, locals := 47 } s m args below meth c H locs 0 0 Qm (F0 m 18 ls [])) → W p l e { frames := 2, cells := 0, slots := 0, locals := 47 } s m args below meth c H locs 0 0 Qm (F0 m 2 ls []) := by
    intro n
    induction n with
    | zero => intro x3 r_t_cites r_t_sizes X H locs ls hf; cases hf
    | succ n ih =>
      intro x3 r_t_cites r_t_sizes X H locs ls hf hP hS hl kx18
      rw [lp_X1_rotateNotes_2] at hf
      refine lv_iload_n hx hb dX1_rotateNotes_2 rfl (lv_at hl 3 rfl) ?_
      refine lv_iload_n hx hb dX1_rotateNotes_3 rfl (lv_at hl 2 rfl) ?_
      refine lv_icmp_ge (tgt := 18) hx hb dX1_rotateNotes_4 (by decide) (fun c1 => ?_) (fun c1 => ?_)
      · have hf := pn_ifp c1 hf
        exact kx18 r_t_cites r_t_sizes H locs ls (Option.some.inj hf).symm hP hS (lv_sub hl [0, 1, 2] rfl)
      · have hf := pn_ifn c1 hf
        refine lv_aload_n hx hb dX1_rotateNotes_7 rfl (lv_at hl 0 rfl) ?_
        refine lv_iload_n hx hb dX1_rotateNotes_8 rfl (lv_at hl 3 rfl) ?_
        obtain ⟨r_t_cites_u2, r_t_sizes_u2, hu2, hf⟩ := pn_bd2_at hf
        refine pn_callv [0, 1, 2] (va_runV (As := [.int x3]) (rest := []) ⟨hx, hb, hml, hown, hts⟩ (c_X1_swapWithNext l D cI cJ cZ a_t a_t_sizes a_t_cites H.size v_t_notes v_t_version N r_t_cites r_t_sizes x3 r_t_cites_u2 r_t_sizes_u2 hu2) (cwV 1 hts gX1_rotateNotes_X1_swapWithNext rfl rfl rfl hdX1_swapWithNext ⟨Nat.le_of_ble_eq_true rfl, Nat.le_of_ble_eq_true rfl⟩) (pn_preV [0, 1, 2] hP (hD.addr rfl) hK rfl rfl (q0 := 0) (ci := 0) rfl rfl) rfl rfl hl.1 rfl (lv_room (Nat.le_of_ble_eq_true rfl)) dX1_rotateNotes_9 ⟨Nat.zero_le _, Nat.zero_le _⟩) hP (hD.addr rfl) hS hA rfl rfl rfl (fun H locs (hP : va_P D vwCl [(a_t, .inr (0, [.ref a_t_sizes, .ref a_t_cites, .int v_t_notes, .int v_t_version])), (a_t_cites, .inl (cJ, 32, .inr (.inl r_t_cites_u2))), (a_t_sizes, .inl (cI, 8, .inl r_t_sizes_u2))] H) _ hS => ?_)
        obtain ⟨z3, ez3⟩ : ∃ y : Int32, y = x3 + (1) := ⟨_, rfl⟩
        have hf := pn_nm_at ez3 hf
        refine lv_iinc (v := z3) (lv' := [(3, .int z3), (0, .ref a_t), (1, .int p1), (2, .int p2)]) hx hb dX1_rotateNotes_12 hl (k := 3) rfl (by rw [ez3]; rfl) (by decide) rfl (fun ls hl => ?_)
        refine lv_goto (tgt := 2) hx hb dX1_rotateNotes_15 (by decide) ?_
        exact ih z3 r_t_cites_u2 r_t_sizes_u2 X H locs ls hf hP hS (lv_sub hl [1, 2, 3, 0] rfl) kx18
  have lp22 : ∀ (n : Nat) (x3 : Int32) (r_t_cites : Nat → Int64) (r_t_sizes : Nat → Int32) (X : (Nat → Int64) × (Nat → Int32)) (H : Heap) (locs : List Loc) (ls : Array Slot), lp_X1_rotateNotes_22 N p2 n x3 r_t_cites r_t_sizes = some X → va_P D vwCl [(a_t, .inr (0, [.ref a_t_sizes, .ref a_t_cites, .int v_t_notes, .int v_t_version])), (a_t_cites, .inl (cJ, 32, .inr (.inl r_t_cites))), (a_t_sizes, .inl (cI, 8, .inl r_t_sizes))] H → va_S A s.heap H locs → lv_has ls 4 [(0, .ref a_t), (2, .int p2), (3, .int x3)] → (∀  (r_t_cites' : Nat → Int64) (r_t_sizes' : Nat → Int32) (H : Heap) (locs : List Loc) (ls : Array Slot), X = (r_t_cites', r_t_sizes') → va_P D vwCl [(a_t, .inr (0, [.ref a_t_sizes, .ref a_t_cites, .int v_t_notes, .int v_t_version])), (a_t_cites, .inl (cJ, 32, .inr (.inl (r_t_cites')))), (a_t_sizes, .inl (cI, 8, .inl (r_t_sizes')))] H → va_S A s.heap H locs → lv_has ls 4 [] → W p l e { frames := 2, cells := 0, slots := 0, locals := 47 } s m args below meth c H locs 0 0 Qm (F0 m 38 ls [])) → W p l e { frames := 2, cells := 0, slots := 0, locals := 47 } s m args below meth c H locs 0 0 Qm (F0 m 22 ls []) := by
    intro n
    induction n with
    | zero => intro x3 r_t_cites r_t_sizes X H locs ls hf; cases hf
    | succ n ih =>
      intro x3 r_t_cites r_t_sizes X H locs ls hf hP hS hl kx38
      rw [lp_X1_rotateNotes_22] at hf
      refine lv_iload_n hx hb dX1_rotateNotes_22 rfl (lv_at hl 2 rfl) ?_
      refine lv_iload_n hx hb dX1_rotateNotes_23 rfl (lv_at hl 1 rfl) ?_
      refine lv_icmp_lt (tgt := 38) hx hb dX1_rotateNotes_24 (by decide) (fun c4 => ?_) (fun c4 => ?_)
      · have hf := pn_ifp c4 hf
        exact kx38 r_t_cites r_t_sizes H locs ls (Option.some.inj hf).symm hP hS (lv_sub hl [] rfl)
      · have hf := pn_ifn c4 hf
        refine lv_aload_n hx hb dX1_rotateNotes_27 rfl (lv_at hl 0 rfl) ?_
        refine lv_iload_n hx hb dX1_rotateNotes_28 rfl (lv_at hl 2 rfl) ?_
        obtain ⟨r_t_cites_u5, r_t_sizes_u5, hu5, hf⟩ := pn_bd2_at hf
        refine pn_callv [0, 1, 2] (va_runV (As := [.int x3]) (rest := []) ⟨hx, hb, hml, hown, hts⟩ (c_X1_swapWithNext l D cI cJ cZ a_t a_t_sizes a_t_cites H.size v_t_notes v_t_version N r_t_cites r_t_sizes x3 r_t_cites_u5 r_t_sizes_u5 hu5) (cwV 1 hts gX1_rotateNotes_X1_swapWithNext rfl rfl rfl hdX1_swapWithNext ⟨Nat.le_of_ble_eq_true rfl, Nat.le_of_ble_eq_true rfl⟩) (pn_preV [0, 1, 2] hP (hD.addr rfl) hK rfl rfl (q0 := 0) (ci := 0) rfl rfl) rfl rfl hl.1 rfl (lv_room (Nat.le_of_ble_eq_true rfl)) dX1_rotateNotes_29 ⟨Nat.zero_le _, Nat.zero_le _⟩) hP (hD.addr rfl) hS hA rfl rfl rfl (fun H locs (hP : va_P D vwCl [(a_t, .inr (0, [.ref a_t_sizes, .ref a_t_cites, .int v_t_notes, .int v_t_version])), (a_t_cites, .inl (cJ, 32, .inr (.inl r_t_cites_u5))), (a_t_sizes, .inl (cI, 8, .inl r_t_sizes_u5))] H) _ hS => ?_)
        obtain ⟨z6, ez6⟩ : ∃ y : Int32, y = x3 + (-1) := ⟨_, rfl⟩
        have hf := pn_nm_at ez6 hf
        refine lv_iinc (v := z6) (lv' := [(3, .int z6), (0, .ref a_t), (2, .int p2)]) hx hb dX1_rotateNotes_32 hl (k := 2) rfl (by rw [ez6]; rfl) (by decide) rfl (fun ls hl => ?_)
        refine lv_goto (tgt := 22) hx hb dX1_rotateNotes_35 (by decide) ?_
        exact ih z6 r_t_cites_u5 r_t_sizes_u5 X H locs ls hf hP hS (lv_sub hl [1, 2, 0] rfl) kx38
  refine lv_iload_n hx hb dX1_rotateNotes_0 rfl (lv_at hl 1 rfl) ?_
  refine lv_istore_n (lv' := [(3, .int p1), (0, .ref a_t), (1, .int p1), (2, .int p2)]) hx hb dX1_rotateNotes_1 rfl hl (by decide) rfl (fun ls hl => ?_)
  obtain ⟨X2, hX2, hf⟩ := pn_bd1_at hf
  refine lp2 N p1 r_t_cites r_t_sizes X2 H locs ls hX2 hP hS (lv_sub hl [1, 2, 3, 0] rfl) ?_
  · intro r_t_cites_w7 r_t_sizes_w7 H locs ls eX hP hS hl
    rw [eX] at hf
    have hf := pn_u2_at hf
    refine lv_iload_n hx hb dX1_rotateNotes_18 rfl (lv_at hl 1 rfl) ?_
    refine lv_iconst (v := (1)) hx hb dX1_rotateNotes_19 (by decide) ?_
    refine lv_isub hx hb dX1_rotateNotes_20 ?_
    refine lv_topi (fun z8 ez8 => ?_)
    have hf := pn_nm_at ez8 hf
    refine lv_istore_n (lv' := [(3, .int z8), (0, .ref a_t), (1, .int p1), (2, .int p2)]) hx hb dX1_rotateNotes_21 rfl hl (by decide) rfl (fun ls hl => ?_)
    obtain ⟨X22, hX22, hf⟩ := pn_bd1_at hf
    refine lp22 N z8 r_t_cites_w7 r_t_sizes_w7 X22 H locs ls hX22 hP hS (lv_sub hl [1, 3, 0] rfl) ?_
    · intro r_t_cites_w9 r_t_sizes_w9 H locs ls eX hP hS hl
      rw [eX] at hf
      have hf := pn_u2_at hf
      cases hf
      rw [hQ]
      exact pn_retv hx hb hr hlocks hP hS dX1_rotateNotes_38
def j_X1_insertNote_53 (N : Nat) (r_q2_cites : Nat → Int64) (r_q2_sizes : Nat → Int32) (p1 : Int32) (v_t_notes : Int32) (v_t_version : Int32) (r_t_cites : Nat → Int64) (r_t_sizes : Nat → Int32) : Option (Int32 × Int32 × (Nat → Int64) × (Nat → Int32)) :=
  pn_rd 8 r_q2_sizes (0 : Int32) fun w1 =>
  pn_wrI 8 r_t_sizes v_t_notes w1 fun g3 =>
  pn_bd1 (f_X1_slotOf v_t_notes (0 : Int32)) fun ru5 =>
  pn_cp 32 r_q2_cites (0 : Int32) 32 r_t_cites ru5 (4 : Int32) fun g6 =>
  pn_nm (v_t_notes + (1 : Int32)) fun z7 =>
  pn_bd2 (f_X1_rotateNotes N g6 g3 (z7 - (1 : Int32)) p1) fun r_t_cites_u8 r_t_sizes_u8 =>
  some (z7, v_t_version, r_t_cites_u8, r_t_sizes_u8)
def f_X1_insertNote (N : Nat) (v_t_notes : Int32) (v_t_version : Int32) (r_t_cites : Nat → Int64) (r_t_sizes : Nat → Int32) (r_q2_cites : Nat → Int64) (r_q2_sizes : Nat → Int32) (p1 : Int32) (p3 : Int32) : Option (Int32 × Int32 × (Nat → Int64) × (Nat → Int32)) :=
  if (8 : Int32) ≤ v_t_notes then
  some (v_t_notes, v_t_version, r_t_cites, r_t_sizes)
  else
  if p1 < 0 then
  some (v_t_notes, v_t_version, r_t_cites, r_t_sizes)
  else
  if p1 ≤ v_t_notes then
  pn_nm (v_t_version + (1 : Int32)) fun z12 =>
  if ¬ p3 = (1 : Int32) then
  j_X1_insertNote_53 N r_q2_cites r_q2_sizes p1 v_t_notes z12 r_t_cites r_t_sizes
  else
  pn_bd1 (f_X1_mendNumbers N v_t_notes r_t_cites r_t_sizes p1 (v_t_notes - (1 : Int32)) (1 : Int32) (-9 : Int32) (-9 : Int32)) fun r_t_cites_u14 =>
  j_X1_insertNote_53 N r_q2_cites r_q2_sizes p1 v_t_notes z12 r_t_cites_u14 r_t_sizes
  else
  some (v_t_notes, v_t_version, r_t_cites, r_t_sizes)
set_option maxHeartbeats 4000000 in
set_option maxRecDepth 100000 in
theorem c_X1_insertNote (l : Launch) (D : va_G) (cI cJ cZ : ClassId) (a_t a_t_sizes a_t_cites a_q2 a_q2_sizes a_q2_cites : Nat) (sz : Nat) (v_q2_notes : Int32) (v_q2_version : Int32) (N : Nat) (v_t_notes : Int32) (v_t_version : Int32) (r_t_cites : Nat → Int64) (r_t_sizes : Nat → Int32) (r_q2_cites : Nat → Int64) (r_q2_sizes : Nat → Int32) (p1 : Int32) (p3 : Int32) (o_t_notes : Int32) (o_t_version : Int32) (o_t_cites : Nat → Int64) (o_t_sizes : Nat → Int32) (hf : f_X1_insertNote N v_t_notes v_t_version r_t_cites r_t_sizes r_q2_cites r_q2_sizes p1 p3 = some (o_t_notes, o_t_version, o_t_cites, o_t_sizes)) : Met l yX1_insertNote wsX1_insertNote { frames := 3, cells := 0, slots := 0, locals := 70 } (pn_Pc D cI cJ cZ [.ref a_t, .int p1, .ref a_q2, .int p3] [(a_t, .inr (0, [.ref a_t_sizes, .ref a_t_cites, .int v_t_notes, .int v_t_version])), (a_t_cites, .inl (cJ, 32, .inr (.inl r_t_cites))), (a_t_sizes, .inl (cI, 8, .inl r_t_sizes)), (a_q2, .inr (0, [.ref a_q2_sizes, .ref a_q2_cites, .int v_q2_notes, .int v_q2_version])), (a_q2_cites, .inl (cJ, 32, .inr (.inl r_q2_cites))), (a_q2_sizes, .inl (cI, 8, .inl r_q2_sizes))] sz) (pn_Qv D [(a_t, .inr (0, [.ref a_t_sizes, .ref a_t_cites, .int o_t_notes, .int o_t_version])), (a_t_cites, .inl (cJ, 32, .inr (.inl o_t_cites))), (a_t_sizes, .inl (cI, 8, .inl o_t_sizes)), (a_q2, .inr (0, [.ref a_q2_sizes, .ref a_q2_cites, .int v_q2_notes, .int v_q2_version])), (a_q2_cites, .inl (cJ, 32, .inr (.inl r_q2_cites))), (a_q2_sizes, .inl (cI, 8, .inl r_q2_sizes))] (va_A [(a_t, .inr (0, [.ref a_t_sizes, .ref a_t_cites, .int v_t_notes, .int v_t_version])), (a_t_cites, .inl (cJ, 32, .inr (.inl r_t_cites))), (a_t_sizes, .inl (cI, 8, .inl r_t_sizes)), (a_q2, .inr (0, [.ref a_q2_sizes, .ref a_q2_cites, .int v_q2_notes, .int v_q2_version])), (a_q2_cites, .inl (cJ, 32, .inr (.inl r_q2_cites))), (a_q2_sizes, .inl (cI, 8, .inl r_q2_sizes))] sz)) 0 0 (va_A [(a_t, .inr (0, [.ref a_t_sizes, .ref a_t_cites, .int v_t_notes, .int v_t_version])), (a_t_cites, .inl (cJ, 32, .inr (.inl r_t_cites))), (a_t_sizes, .inl (cI, 8, .inl r_t_sizes)), (a_q2, .inr (0, [.ref a_q2_sizes, .ref a_q2_cites, .int v_q2_notes, .int v_q2_version])), (a_q2_cites, .inl (cJ, 32, .inr (.inl r_q2_cites))), (a_q2_sizes, .inl (cI, 8, .inl r_q2_sizes))] sz) := by
  refine pn_entry (cc := cX1_insertNote) (maxL := 4) (ret := none) (Qf := pn_Qv D [(a_t, .inr (0, [.ref a_t_sizes, .ref a_t_cites, .int o_t_notes, .int o_t_version])), (a_t_cites, .inl (cJ, 32, .inr (.inl o_t_cites))), (a_t_sizes, .inl (cI, 8, .inl o_t_sizes)), (a_q2, .inr (0, [.ref a_q2_sizes, .ref a_q2_cites, .int v_q2_notes, .int v_q2_version])), (a_q2_cites, .inl (cJ, 32, .inr (.inl r_q2_cites))), (a_q2_sizes, .inl (cI, 8, .inl r_q2_sizes))]) (by decide) rfl (Nat.le_of_ble_eq_true rfl) ?_
  intro p e s m args below meth c A ls H locs Qm hQ hx hb hr hlocks hml hown hts hK hP hD hA hS hl
  have hl : lv_has ls 4 [(0, .ref a_t), (1, .int p1), (2, .ref a_q2), (3, .int p3)] := hl
  have hinX1 : ∀ w ∈ wsX10, w ∈ wsX1_insertNote := by decide +kernel
  have fl_9 := hts (.fieldLink RX1 9 "PointingNotes$Paper" "sizes" "[I") (by decide +kernel)
  have fl_15 := hts (.fieldLink RX1 15 "PointingNotes$Paper" "cites" "[J") (by decide +kernel)
  have fl_19 := hts (.fieldLink RX1 19 "PointingNotes$Paper" "notes" "I") (by decide +kernel)
  have fl_23 := hts (.fieldLink RX1 23 "PointingNotes$Paper" "version" "I") (by decide +kernel)
  have cpn := hts (.native arraycopyName) (by decide +kernel)
  have cps := hts (.static arraycopyName) (by decide +kernel)
  have cpi := hts (.initialized "java/lang/System") (by decide +kernel)
  have cpl_48 := hts (.methodLink RX1 48 arraycopyName) (by decide +kernel)
  rw [f_X1_insertNote] at hf
  have jn53 : ∀ (v_t_notes : Int32) (v_t_version : Int32) (r_t_cites : Nat → Int64) (r_t_sizes : Nat → Int32) (H : Heap) (locs : List Loc) (ls : Array Slot), j_X1_insertNote_53 N r_q2_cites r_q2_sizes p1 v_t_notes v_t_version r_t_cites r_t_sizes = some (o_t_notes, o_t_version, o_t_cites, o_t_sizes) → va_P D vwCl [(a_t, .inr (0, [.ref a_t_sizes, .ref a_t_cites, .int v_t_notes, .int v_t_version])), (a_t_cites, .inl (cJ, 32, .inr (.inl r_t_cites))), (a_t_sizes, .inl (cI, 8, .inl r_t_sizes)), (a_q2, .inr (0, [.ref a_q2_sizes, .ref a_q2_cites, .int v_q2_notes, .int v_q2_version])), (a_q2_cites, .inl (cJ, 32, .inr (.inl r_q2_cites))), (a_q2_sizes, .inl (cI, 8, .inl r_q2_sizes))] H → va_S A s.heap H locs → lv_has ls 4 [(0, .ref a_t), (1, .int p1), (2, .ref a_q2)] → W p l e { frames := 3, cells := 0, slots := 0, locals := 70 } s m args below meth c H locs 0 0 Qm (F0 m 53 ls []) := by
    intro v_t_notes v_t_version r_t_cites r_t_sizes H locs ls hf hP hS hl
    rw [j_X1_insertNote_53] at hf
    refine lv_aload_n hx hb dX1_insertNote_53 rfl (lv_at hl 0 rfl) ?_
    refine va_get (D := D) (ci := 0) (v := .ref a_t_sizes) (C := RX1) (T := TX1) (N := 4) hx hb hts hinX1 hown hK.1 hP 0 rfl rfl 0 (by decide) fl_9 (fun _ h9 => h9) rfl dX1_insertNote_54 ?_
    refine lv_aload_n hx hb dX1_insertNote_57 rfl (lv_at hl 0 rfl) ?_
    refine va_get (D := D) (ci := 0) (v := .int v_t_notes) (C := RX1) (T := TX1) (N := 4) hx hb hts hinX1 hown hK.1 hP 0 rfl rfl 2 (by decide) fl_19 (fun _ h9 => h9) rfl dX1_insertNote_58 ?_
    refine lv_aload_n hx hb dX1_insertNote_61 rfl (lv_at hl 2 rfl) ?_
    refine va_get (D := D) (ci := 0) (v := .ref a_q2_sizes) (C := RX1) (T := TX1) (N := 4) hx hb hts hinX1 hown hK.1 hP 3 rfl rfl 0 (by decide) fl_9 (fun _ h9 => h9) rfl dX1_insertNote_62 ?_
    refine lv_iconst (v := (0)) hx hb dX1_insertNote_65 (by decide) ?_
    obtain ⟨hi2, w1, ew1, hf⟩ := pn_rd_at hf
    refine pn_ldI hx hb hK.1 hP 5 0 rfl rfl hi2 ew1 dX1_insertNote_66 ?_
    obtain ⟨hi4, g3, eg3, hf⟩ := pn_wrI_at hf
    refine pn_stI hx hb hK.1 hP (hD.addr rfl) hS 2 0 rfl rfl hi4 eg3 dX1_insertNote_67 (fun H locs (hP : va_P D vwCl [(a_t, .inr (0, [.ref a_t_sizes, .ref a_t_cites, .int v_t_notes, .int v_t_version])), (a_t_cites, .inl (cJ, 32, .inr (.inl r_t_cites))), (a_t_sizes, .inl (cI, 8, .inl g3)), (a_q2, .inr (0, [.ref a_q2_sizes, .ref a_q2_cites, .int v_q2_notes, .int v_q2_version])), (a_q2_cites, .inl (cJ, 32, .inr (.inl r_q2_cites))), (a_q2_sizes, .inl (cI, 8, .inl r_q2_sizes))] H) _ hS => ?_)
    refine lv_aload_n hx hb dX1_insertNote_68 rfl (lv_at hl 2 rfl) ?_
    refine va_get (D := D) (ci := 0) (v := .ref a_q2_cites) (C := RX1) (T := TX1) (N := 4) hx hb hts hinX1 hown hK.1 hP 3 rfl rfl 1 (by decide) fl_15 (fun _ h9 => h9) rfl dX1_insertNote_69 ?_
    refine lv_iconst (v := (0)) hx hb dX1_insertNote_72 (by decide) ?_
    refine lv_aload_n hx hb dX1_insertNote_73 rfl (lv_at hl 0 rfl) ?_
    refine va_get (D := D) (ci := 0) (v := .ref a_t_cites) (C := RX1) (T := TX1) (N := 4) hx hb hts hinX1 hown hK.1 hP 0 rfl rfl 1 (by decide) fl_15 (fun _ h9 => h9) rfl dX1_insertNote_74 ?_
    refine lv_aload_n hx hb dX1_insertNote_77 rfl (lv_at hl 0 rfl) ?_
    refine va_get (D := D) (ci := 0) (v := .int v_t_notes) (C := RX1) (T := TX1) (N := 4) hx hb hts hinX1 hown hK.1 hP 0 rfl rfl 2 (by decide) fl_19 (fun _ h9 => h9) rfl dX1_insertNote_78 ?_
    refine lv_iconst (v := (0)) hx hb dX1_insertNote_81 (by decide) ?_
    obtain ⟨ru5, hu5, hf⟩ := pn_bd1_at hf
    refine pn_calli [] (va_runS (As := [.int v_t_notes, .int (0 : Int32)]) (rest := [.ref a_t_cites, .int (0 : Int32), .ref a_q2_cites]) ⟨hx, hb, hml, hown, hts⟩ (c_X1_slotOf l D cI cJ cZ H.size v_t_notes (0 : Int32) ru5 hu5) (va_cwS 2 hts gX1_insertNote_X1_slotOf rfl rfl rfl hdX1_slotOf ⟨Nat.le_of_ble_eq_true rfl, Nat.le_of_ble_eq_true rfl⟩) (pn_preS [] hP (hD.addr rfl) hK rfl rfl) rfl rfl hl.1 rfl (lv_room (Nat.le_of_ble_eq_true rfl)) dX1_insertNote_82 ⟨Nat.zero_le _, Nat.zero_le _⟩) hP (hD.addr rfl) hS hA rfl rfl rfl (fun H locs (hP : va_P D vwCl [(a_t, .inr (0, [.ref a_t_sizes, .ref a_t_cites, .int v_t_notes, .int v_t_version])), (a_t_cites, .inl (cJ, 32, .inr (.inl r_t_cites))), (a_t_sizes, .inl (cI, 8, .inl g3)), (a_q2, .inr (0, [.ref a_q2_sizes, .ref a_q2_cites, .int v_q2_notes, .int v_q2_version])), (a_q2_cites, .inl (cJ, 32, .inr (.inl r_q2_cites))), (a_q2_sizes, .inl (cI, 8, .inl r_q2_sizes))] H) _ hS => ?_)
    refine lv_iconst (v := (4)) hx hb dX1_insertNote_85 (by decide) ?_
    obtain ⟨⟨k1, k2, k3, k4, k5⟩, g6, eg6, hf⟩ := pn_cp_at hf
    refine va_copyl hx hb (by rw [hml]; exact hl.1.symm) hown cpl_48 cpn cps cpi hK.1 hP (hD.addr rfl) hS 4 1 1 1 rfl rfl rfl rfl rfl k1 k2 k3 k4 k5 (fun _ _ => rfl) (Nat.le_of_ble_eq_true rfl) (Nat.le_of_ble_eq_true rfl) dX1_insertNote_86 (fun H locs hP _ hS => ?_)
    rw [← eg6] at hP
    have hP : va_P D vwCl [(a_t, .inr (0, [.ref a_t_sizes, .ref a_t_cites, .int v_t_notes, .int v_t_version])), (a_t_cites, .inl (cJ, 32, .inr (.inl g6))), (a_t_sizes, .inl (cI, 8, .inl g3)), (a_q2, .inr (0, [.ref a_q2_sizes, .ref a_q2_cites, .int v_q2_notes, .int v_q2_version])), (a_q2_cites, .inl (cJ, 32, .inr (.inl r_q2_cites))), (a_q2_sizes, .inl (cI, 8, .inl r_q2_sizes))] H := hP
    refine lv_aload_n hx hb dX1_insertNote_89 rfl (lv_at hl 0 rfl) ?_
    refine lv_dup hx hb dX1_insertNote_90 rfl ?_
    refine va_get (D := D) (ci := 0) (v := .int v_t_notes) (C := RX1) (T := TX1) (N := 4) hx hb hts hinX1 hown hK.1 hP 0 rfl rfl 2 (by decide) fl_19 (fun _ h9 => h9) rfl dX1_insertNote_91 ?_
    refine lv_iconst (v := (1)) hx hb dX1_insertNote_94 (by decide) ?_
    refine lv_iadd hx hb dX1_insertNote_95 ?_
    refine lv_topi (fun z7 ez7 => ?_)
    have hf := pn_nm_at ez7 hf
    refine va_put (D := D) (ci := 0) (v := .int z7) (ty := .int) (C := RX1) (T := TX1) (N := 4) hx hb hts hinX1 tyX1 tyX1_ok nmX1 hown hK.1 hP (hD.addr rfl) hS 0 rfl rfl 2 (by decide) fl_19 (fun _ h9 => h9) rfl (by decide +kernel) rfl rfl (Nat.le_of_ble_eq_true rfl) dX1_insertNote_96 (fun H locs (hP : va_P D vwCl [(a_t, .inr (0, [.ref a_t_sizes, .ref a_t_cites, .int z7, .int v_t_version])), (a_t_cites, .inl (cJ, 32, .inr (.inl g6))), (a_t_sizes, .inl (cI, 8, .inl g3)), (a_q2, .inr (0, [.ref a_q2_sizes, .ref a_q2_cites, .int v_q2_notes, .int v_q2_version])), (a_q2_cites, .inl (cJ, 32, .inr (.inl r_q2_cites))), (a_q2_sizes, .inl (cI, 8, .inl r_q2_sizes))] H) _ hS => ?_)
    refine lv_aload_n hx hb dX1_insertNote_99 rfl (lv_at hl 0 rfl) ?_
    refine lv_aload_n hx hb dX1_insertNote_100 rfl (lv_at hl 0 rfl) ?_
    refine va_get (D := D) (ci := 0) (v := .int z7) (C := RX1) (T := TX1) (N := 4) hx hb hts hinX1 hown hK.1 hP 0 rfl rfl 2 (by decide) fl_19 (fun _ h9 => h9) rfl dX1_insertNote_101 ?_
    refine lv_iconst (v := (1)) hx hb dX1_insertNote_104 (by decide) ?_
    refine lv_isub hx hb dX1_insertNote_105 ?_
    refine lv_iload_n hx hb dX1_insertNote_106 rfl (lv_at hl 1 rfl) ?_
    obtain ⟨r_t_cites_u8, r_t_sizes_u8, hu8, hf⟩ := pn_bd2_at hf
    refine pn_callv [0, 1, 2] (va_runV (As := [.int (z7 - (1 : Int32)), .int p1]) (rest := []) ⟨hx, hb, hml, hown, hts⟩ (c_X1_rotateNotes l D cI cJ cZ a_t a_t_sizes a_t_cites H.size z7 v_t_version N g6 g3 (z7 - (1 : Int32)) p1 r_t_cites_u8 r_t_sizes_u8 hu8) (cwV 2 hts gX1_insertNote_X1_rotateNotes rfl rfl rfl hdX1_rotateNotes ⟨Nat.le_of_ble_eq_true rfl, Nat.le_of_ble_eq_true rfl⟩) (pn_preV [0, 1, 2] hP (hD.addr rfl) hK rfl rfl (q0 := 0) (ci := 0) rfl rfl) rfl rfl hl.1 rfl (lv_room (Nat.le_of_ble_eq_true rfl)) dX1_insertNote_107 ⟨Nat.zero_le _, Nat.zero_le _⟩) hP (hD.addr rfl) hS hA rfl rfl rfl (fun H locs (hP : va_P D vwCl [(a_t, .inr (0, [.ref a_t_sizes, .ref a_t_cites, .int z7, .int v_t_version])), (a_t_cites, .inl (cJ, 32, .inr (.inl r_t_cites_u8))), (a_t_sizes, .inl (cI, 8, .inl r_t_sizes_u8)), (a_q2, .inr (0, [.ref a_q2_sizes, .ref a_q2_cites, .int v_q2_notes, .int v_q2_version])), (a_q2_cites, .inl (cJ, 32, .inr (.inl r_q2_cites))), (a_q2_sizes, .inl (cI, 8, .inl r_q2_sizes))] H) _ hS => ?_)
    cases hf
    rw [hQ]
    exact pn_retv hx hb hr hlocks hP hS dX1_insertNote_110
  refine lv_aload_n hx hb dX1_insertNote_0 rfl (lv_at hl 0 rfl) ?_
  refine va_get (D := D) (ci := 0) (v := .int v_t_notes) (C := RX1) (T := TX1) (N := 4) hx hb hts hinX1 hown hK.1 hP 0 rfl rfl 2 (by decide) fl_19 (fun _ h9 => h9) rfl dX1_insertNote_1 ?_
  refine lv_bipush (v := (8)) hx hb dX1_insertNote_4 (by decide) ?_
  refine lv_icmp_ge (tgt := 21) hx hb dX1_insertNote_6 (by decide) (fun c9 => ?_) (fun c9 => ?_)
  · have hf := pn_ifp c9 hf
    cases hf
    rw [hQ]
    exact pn_retv hx hb hr hlocks hP hS dX1_insertNote_21
  · have hf := pn_ifn c9 hf
    refine lv_iload_n hx hb dX1_insertNote_9 rfl (lv_at hl 1 rfl) ?_
    refine lv_if_lt (tgt := 21) hx hb dX1_insertNote_10 (by decide) (fun c10 => ?_) (fun c10 => ?_)
    · have hf := pn_ifp c10 hf
      cases hf
      rw [hQ]
      exact pn_retv hx hb hr hlocks hP hS dX1_insertNote_21
    · have hf := pn_ifn c10 hf
      refine lv_iload_n hx hb dX1_insertNote_13 rfl (lv_at hl 1 rfl) ?_
      refine lv_aload_n hx hb dX1_insertNote_14 rfl (lv_at hl 0 rfl) ?_
      refine va_get (D := D) (ci := 0) (v := .int v_t_notes) (C := RX1) (T := TX1) (N := 4) hx hb hts hinX1 hown hK.1 hP 0 rfl rfl 2 (by decide) fl_19 (fun _ h9 => h9) rfl dX1_insertNote_15 ?_
      refine lv_icmp_le (tgt := 22) hx hb dX1_insertNote_18 (by decide) (fun c11 => ?_) (fun c11 => ?_)
      · have hf := pn_ifp c11 hf
        refine lv_aload_n hx hb dX1_insertNote_22 rfl (lv_at hl 0 rfl) ?_
        refine lv_dup hx hb dX1_insertNote_23 rfl ?_
        refine va_get (D := D) (ci := 0) (v := .int v_t_version) (C := RX1) (T := TX1) (N := 4) hx hb hts hinX1 hown hK.1 hP 0 rfl rfl 3 (by decide) fl_23 (fun _ h9 => h9) rfl dX1_insertNote_24 ?_
        refine lv_iconst (v := (1)) hx hb dX1_insertNote_27 (by decide) ?_
        refine lv_iadd hx hb dX1_insertNote_28 ?_
        refine lv_topi (fun z12 ez12 => ?_)
        have hf := pn_nm_at ez12 hf
        refine va_put (D := D) (ci := 0) (v := .int z12) (ty := .int) (C := RX1) (T := TX1) (N := 4) hx hb hts hinX1 tyX1 tyX1_ok nmX1 hown hK.1 hP (hD.addr rfl) hS 0 rfl rfl 3 (by decide) fl_23 (fun _ h9 => h9) rfl (by decide +kernel) rfl rfl (Nat.le_of_ble_eq_true rfl) dX1_insertNote_29 (fun H locs (hP : va_P D vwCl [(a_t, .inr (0, [.ref a_t_sizes, .ref a_t_cites, .int v_t_notes, .int z12])), (a_t_cites, .inl (cJ, 32, .inr (.inl r_t_cites))), (a_t_sizes, .inl (cI, 8, .inl r_t_sizes)), (a_q2, .inr (0, [.ref a_q2_sizes, .ref a_q2_cites, .int v_q2_notes, .int v_q2_version])), (a_q2_cites, .inl (cJ, 32, .inr (.inl r_q2_cites))), (a_q2_sizes, .inl (cI, 8, .inl r_q2_sizes))] H) _ hS => ?_)
        refine lv_iload_n hx hb dX1_insertNote_32 rfl (lv_at hl 3 rfl) ?_
        refine lv_iconst (v := (1)) hx hb dX1_insertNote_33 (by decide) ?_
        refine lv_icmp_ne (tgt := 53) hx hb dX1_insertNote_34 (by decide) (fun c13 => ?_) (fun c13 => ?_)
        · have hf := pn_ifp c13 hf
          exact jn53 v_t_notes z12 r_t_cites r_t_sizes H locs ls hf hP hS (lv_sub hl [0, 1, 2] rfl)
        · have hf := pn_ifq c13 hf
          refine lv_aload_n hx hb dX1_insertNote_37 rfl (lv_at hl 0 rfl) ?_
          refine lv_iload_n hx hb dX1_insertNote_38 rfl (lv_at hl 1 rfl) ?_
          refine lv_aload_n hx hb dX1_insertNote_39 rfl (lv_at hl 0 rfl) ?_
          refine va_get (D := D) (ci := 0) (v := .int v_t_notes) (C := RX1) (T := TX1) (N := 4) hx hb hts hinX1 hown hK.1 hP 0 rfl rfl 2 (by decide) fl_19 (fun _ h9 => h9) rfl dX1_insertNote_40 ?_
          refine lv_iconst (v := (1)) hx hb dX1_insertNote_43 (by decide) ?_
          refine lv_isub hx hb dX1_insertNote_44 ?_
          refine lv_iconst (v := (1)) hx hb dX1_insertNote_45 (by decide) ?_
          refine lv_bipush (v := (-9)) hx hb dX1_insertNote_46 (by decide) ?_
          refine lv_bipush (v := (-9)) hx hb dX1_insertNote_48 (by decide) ?_
          obtain ⟨r_t_cites_u14, hu14, hf⟩ := pn_bd1_at hf
          refine pn_callv [0, 1, 2] (va_runV (As := [.int p1, .int (v_t_notes - (1 : Int32)), .int (1 : Int32), .int (-9 : Int32), .int (-9 : Int32)]) (rest := []) ⟨hx, hb, hml, hown, hts⟩ (c_X1_mendNumbers l D cI cJ cZ a_t a_t_sizes a_t_cites H.size z12 N v_t_notes r_t_cites r_t_sizes p1 (v_t_notes - (1 : Int32)) (1 : Int32) (-9 : Int32) (-9 : Int32) r_t_cites_u14 hu14) (cwV 5 hts gX1_insertNote_X1_mendNumbers rfl rfl rfl hdX1_mendNumbers ⟨Nat.le_of_ble_eq_true rfl, Nat.le_of_ble_eq_true rfl⟩) (pn_preV [0, 1, 2] hP (hD.addr rfl) hK rfl rfl (q0 := 0) (ci := 0) rfl rfl) rfl rfl hl.1 rfl (lv_room (Nat.le_of_ble_eq_true rfl)) dX1_insertNote_50 ⟨Nat.zero_le _, Nat.zero_le _⟩) hP (hD.addr rfl) hS hA rfl rfl rfl (fun H locs (hP : va_P D vwCl [(a_t, .inr (0, [.ref a_t_sizes, .ref a_t_cites, .int v_t_notes, .int z12])), (a_t_cites, .inl (cJ, 32, .inr (.inl r_t_cites_u14))), (a_t_sizes, .inl (cI, 8, .inl r_t_sizes)), (a_q2, .inr (0, [.ref a_q2_sizes, .ref a_q2_cites, .int v_q2_notes, .int v_q2_version])), (a_q2_cites, .inl (cJ, 32, .inr (.inl r_q2_cites))), (a_q2_sizes, .inl (cI, 8, .inl r_q2_sizes))] H) _ hS => ?_)
          exact jn53 v_t_notes z12 r_t_cites_u14 r_t_sizes H locs ls hf hP hS (lv_sub hl [0, 1, 2] rfl)
      · have hf := pn_ifn c11 hf
        cases hf
        rw [hQ]
        exact pn_retv hx hb hr hlocks hP hS dX1_insertNote_21
def j_X1_dropNote_42 (N : Nat) (p1 : Int32) (v_t_notes : Int32) (v_t_version : Int32) (r_t_cites : Nat → Int64) (r_t_sizes : Nat → Int32) : Option (Int32 × Int32 × (Nat → Int64) × (Nat → Int32)) :=
  pn_bd2 (f_X1_rotateNotes N r_t_cites r_t_sizes p1 (v_t_notes - (1 : Int32))) fun r_t_cites_u1 r_t_sizes_u1 =>
  pn_nm (v_t_notes - (1 : Int32)) fun z2 =>
  some (z2, v_t_version, r_t_cites_u1, r_t_sizes_u1)
def f_X1_dropNote (N : Nat) (v_t_notes : Int32) (v_t_version : Int32) (r_t_cites : Nat → Int64) (r_t_sizes : Nat → Int32) (p1 : Int32) (p2 : Int32) : Option (Int32 × Int32 × (Nat → Int64) × (Nat → Int32)) :=
  pn_bd1 (f_X1_hasNote v_t_notes p1) fun ru3 =>
  if ¬ ru3 = 0 then
  pn_nm (v_t_version + (1 : Int32)) fun z5 =>
  if ¬ p2 = (1 : Int32) then
  j_X1_dropNote_42 N p1 v_t_notes z5 r_t_cites r_t_sizes
  else
  pn_bd1 (f_X1_mendNumbers N v_t_notes r_t_cites r_t_sizes (p1 + (1 : Int32)) (v_t_notes - (1 : Int32)) (-1 : Int32) (-9 : Int32) (-9 : Int32)) fun r_t_cites_u7 =>
  j_X1_dropNote_42 N p1 v_t_notes z5 r_t_cites_u7 r_t_sizes
  else
  some (v_t_notes, v_t_version, r_t_cites, r_t_sizes)
set_option maxHeartbeats 4000000 in
set_option maxRecDepth 100000 in
theorem c_X1_dropNote (l : Launch) (D : va_G) (cI cJ cZ : ClassId) (a_t a_t_sizes a_t_cites : Nat) (sz : Nat) (N : Nat) (v_t_notes : Int32) (v_t_version : Int32) (r_t_cites : Nat → Int64) (r_t_sizes : Nat → Int32) (p1 : Int32) (p2 : Int32) (o_t_notes : Int32) (o_t_version : Int32) (o_t_cites : Nat → Int64) (o_t_sizes : Nat → Int32) (hf : f_X1_dropNote N v_t_notes v_t_version r_t_cites r_t_sizes p1 p2 = some (o_t_notes, o_t_version, o_t_cites, o_t_sizes)) : Met l yX1_dropNote wsX1_dropNote { frames := 3, cells := 0, slots := 0, locals := 70 } (pn_Pc D cI cJ cZ [.ref a_t, .int p1, .int p2] [(a_t, .inr (0, [.ref a_t_sizes, .ref a_t_cites, .int v_t_notes, .int v_t_version])), (a_t_cites, .inl (cJ, 32, .inr (.inl r_t_cites))), (a_t_sizes, .inl (cI, 8, .inl r_t_sizes))] sz) (pn_Qv D [(a_t, .inr (0, [.ref a_t_sizes, .ref a_t_cites, .int o_t_notes, .int o_t_version])), (a_t_cites, .inl (cJ, 32, .inr (.inl o_t_cites))), (a_t_sizes, .inl (cI, 8, .inl o_t_sizes))] (va_A [(a_t, .inr (0, [.ref a_t_sizes, .ref a_t_cites, .int v_t_notes, .int v_t_version])), (a_t_cites, .inl (cJ, 32, .inr (.inl r_t_cites))), (a_t_sizes, .inl (cI, 8, .inl r_t_sizes))] sz)) 0 0 (va_A [(a_t, .inr (0, [.ref a_t_sizes, .ref a_t_cites, .int v_t_notes, .int v_t_version])), (a_t_cites, .inl (cJ, 32, .inr (.inl r_t_cites))), (a_t_sizes, .inl (cI, 8, .inl r_t_sizes))] sz) := by
  refine pn_entry (cc := cX1_dropNote) (maxL := 3) (ret := none) (Qf := pn_Qv D [(a_t, .inr (0, [.ref a_t_sizes, .ref a_t_cites, .int o_t_notes, .int o_t_version])), (a_t_cites, .inl (cJ, 32, .inr (.inl o_t_cites))), (a_t_sizes, .inl (cI, 8, .inl o_t_sizes))]) (by decide) rfl (Nat.le_of_ble_eq_true rfl) ?_
  intro p e s m args below meth c A ls H locs Qm hQ hx hb hr hlocks hml hown hts hK hP hD hA hS hl
  have hl : lv_has ls 3 [(0, .ref a_t), (1, .int p1), (2, .int p2)] := hl
  have hinX1 : ∀ w ∈ wsX10, w ∈ wsX1_dropNote := by decide +kernel
  have fl_19 := hts (.fieldLink RX1 19 "PointingNotes$Paper" "notes" "I") (by decide +kernel)
  have fl_23 := hts (.fieldLink RX1 23 "PointingNotes$Paper" "version" "I") (by decide +kernel)
  rw [f_X1_dropNote] at hf
  have jn42 : ∀ (v_t_notes : Int32) (v_t_version : Int32) (r_t_cites : Nat → Int64) (r_t_sizes : Nat → Int32) (H : Heap) (locs : List Loc) (ls : Array Slot), j_X1_dropNote_42 N p1 v_t_notes v_t_version r_t_cites r_t_sizes = some (o_t_notes, o_t_version, o_t_cites, o_t_sizes) → va_P D vwCl [(a_t, .inr (0, [.ref a_t_sizes, .ref a_t_cites, .int v_t_notes, .int v_t_version])), (a_t_cites, .inl (cJ, 32, .inr (.inl r_t_cites))), (a_t_sizes, .inl (cI, 8, .inl r_t_sizes))] H → va_S A s.heap H locs → lv_has ls 3 [(0, .ref a_t), (1, .int p1)] → W p l e { frames := 3, cells := 0, slots := 0, locals := 70 } s m args below meth c H locs 0 0 Qm (F0 m 42 ls []) := by
    intro v_t_notes v_t_version r_t_cites r_t_sizes H locs ls hf hP hS hl
    rw [j_X1_dropNote_42] at hf
    refine lv_aload_n hx hb dX1_dropNote_42 rfl (lv_at hl 0 rfl) ?_
    refine lv_iload_n hx hb dX1_dropNote_43 rfl (lv_at hl 1 rfl) ?_
    refine lv_aload_n hx hb dX1_dropNote_44 rfl (lv_at hl 0 rfl) ?_
    refine va_get (D := D) (ci := 0) (v := .int v_t_notes) (C := RX1) (T := TX1) (N := 4) hx hb hts hinX1 hown hK.1 hP 0 rfl rfl 2 (by decide) fl_19 (fun _ h9 => h9) rfl dX1_dropNote_45 ?_
    refine lv_iconst (v := (1)) hx hb dX1_dropNote_48 (by decide) ?_
    refine lv_isub hx hb dX1_dropNote_49 ?_
    obtain ⟨r_t_cites_u1, r_t_sizes_u1, hu1, hf⟩ := pn_bd2_at hf
    refine pn_callv [0, 1, 2] (va_runV (As := [.int p1, .int (v_t_notes - (1 : Int32))]) (rest := []) ⟨hx, hb, hml, hown, hts⟩ (c_X1_rotateNotes l D cI cJ cZ a_t a_t_sizes a_t_cites H.size v_t_notes v_t_version N r_t_cites r_t_sizes p1 (v_t_notes - (1 : Int32)) r_t_cites_u1 r_t_sizes_u1 hu1) (cwV 2 hts gX1_dropNote_X1_rotateNotes rfl rfl rfl hdX1_rotateNotes ⟨Nat.le_of_ble_eq_true rfl, Nat.le_of_ble_eq_true rfl⟩) (pn_preV [0, 1, 2] hP (hD.addr rfl) hK rfl rfl (q0 := 0) (ci := 0) rfl rfl) rfl rfl hl.1 rfl (lv_room (Nat.le_of_ble_eq_true rfl)) dX1_dropNote_50 ⟨Nat.zero_le _, Nat.zero_le _⟩) hP (hD.addr rfl) hS hA rfl rfl rfl (fun H locs (hP : va_P D vwCl [(a_t, .inr (0, [.ref a_t_sizes, .ref a_t_cites, .int v_t_notes, .int v_t_version])), (a_t_cites, .inl (cJ, 32, .inr (.inl r_t_cites_u1))), (a_t_sizes, .inl (cI, 8, .inl r_t_sizes_u1))] H) _ hS => ?_)
    refine lv_aload_n hx hb dX1_dropNote_53 rfl (lv_at hl 0 rfl) ?_
    refine lv_dup hx hb dX1_dropNote_54 rfl ?_
    refine va_get (D := D) (ci := 0) (v := .int v_t_notes) (C := RX1) (T := TX1) (N := 4) hx hb hts hinX1 hown hK.1 hP 0 rfl rfl 2 (by decide) fl_19 (fun _ h9 => h9) rfl dX1_dropNote_55 ?_
    refine lv_iconst (v := (1)) hx hb dX1_dropNote_58 (by decide) ?_
    refine lv_isub hx hb dX1_dropNote_59 ?_
    refine lv_topi (fun z2 ez2 => ?_)
    have hf := pn_nm_at ez2 hf
    refine va_put (D := D) (ci := 0) (v := .int z2) (ty := .int) (C := RX1) (T := TX1) (N := 4) hx hb hts hinX1 tyX1 tyX1_ok nmX1 hown hK.1 hP (hD.addr rfl) hS 0 rfl rfl 2 (by decide) fl_19 (fun _ h9 => h9) rfl (by decide +kernel) rfl rfl (Nat.le_of_ble_eq_true rfl) dX1_dropNote_60 (fun H locs (hP : va_P D vwCl [(a_t, .inr (0, [.ref a_t_sizes, .ref a_t_cites, .int z2, .int v_t_version])), (a_t_cites, .inl (cJ, 32, .inr (.inl r_t_cites_u1))), (a_t_sizes, .inl (cI, 8, .inl r_t_sizes_u1))] H) _ hS => ?_)
    cases hf
    rw [hQ]
    exact pn_retv hx hb hr hlocks hP hS dX1_dropNote_63
  refine lv_aload_n hx hb dX1_dropNote_0 rfl (lv_at hl 0 rfl) ?_
  refine lv_iload_n hx hb dX1_dropNote_1 rfl (lv_at hl 1 rfl) ?_
  obtain ⟨ru3, hu3, hf⟩ := pn_bd1_at hf
  refine pn_calli [0] (va_runV (As := [.int p1]) (rest := []) ⟨hx, hb, hml, hown, hts⟩ (c_X1_hasNote l D cI cJ cZ a_t a_t_sizes a_t_cites H.size v_t_version v_t_notes p1 ru3 hu3) (cwV 1 hts gX1_dropNote_X1_hasNote rfl rfl rfl hdX1_hasNote ⟨Nat.le_of_ble_eq_true rfl, Nat.le_of_ble_eq_true rfl⟩) (pn_preV [0] hP (hD.addr rfl) hK rfl rfl (q0 := 0) (ci := 0) rfl rfl) rfl rfl hl.1 rfl (lv_room (Nat.le_of_ble_eq_true rfl)) dX1_dropNote_2 ⟨Nat.zero_le _, Nat.zero_le _⟩) hP (hD.addr rfl) hS hA rfl rfl rfl (fun H locs (hP : va_P D vwCl [(a_t, .inr (0, [.ref a_t_sizes, .ref a_t_cites, .int v_t_notes, .int v_t_version])), (a_t_cites, .inl (cJ, 32, .inr (.inl r_t_cites))), (a_t_sizes, .inl (cI, 8, .inl r_t_sizes))] H) _ hS => ?_)
  refine lv_if_ne (tgt := 9) hx hb dX1_dropNote_5 (by decide) (fun c4 => ?_) (fun c4 => ?_)
  · have hf := pn_ifp c4 hf
    refine lv_aload_n hx hb dX1_dropNote_9 rfl (lv_at hl 0 rfl) ?_
    refine lv_dup hx hb dX1_dropNote_10 rfl ?_
    refine va_get (D := D) (ci := 0) (v := .int v_t_version) (C := RX1) (T := TX1) (N := 4) hx hb hts hinX1 hown hK.1 hP 0 rfl rfl 3 (by decide) fl_23 (fun _ h9 => h9) rfl dX1_dropNote_11 ?_
    refine lv_iconst (v := (1)) hx hb dX1_dropNote_14 (by decide) ?_
    refine lv_iadd hx hb dX1_dropNote_15 ?_
    refine lv_topi (fun z5 ez5 => ?_)
    have hf := pn_nm_at ez5 hf
    refine va_put (D := D) (ci := 0) (v := .int z5) (ty := .int) (C := RX1) (T := TX1) (N := 4) hx hb hts hinX1 tyX1 tyX1_ok nmX1 hown hK.1 hP (hD.addr rfl) hS 0 rfl rfl 3 (by decide) fl_23 (fun _ h9 => h9) rfl (by decide +kernel) rfl rfl (Nat.le_of_ble_eq_true rfl) dX1_dropNote_16 (fun H locs (hP : va_P D vwCl [(a_t, .inr (0, [.ref a_t_sizes, .ref a_t_cites, .int v_t_notes, .int z5])), (a_t_cites, .inl (cJ, 32, .inr (.inl r_t_cites))), (a_t_sizes, .inl (cI, 8, .inl r_t_sizes))] H) _ hS => ?_)
    refine lv_iload_n hx hb dX1_dropNote_19 rfl (lv_at hl 2 rfl) ?_
    refine lv_iconst (v := (1)) hx hb dX1_dropNote_20 (by decide) ?_
    refine lv_icmp_ne (tgt := 42) hx hb dX1_dropNote_21 (by decide) (fun c6 => ?_) (fun c6 => ?_)
    · have hf := pn_ifp c6 hf
      exact jn42 v_t_notes z5 r_t_cites r_t_sizes H locs ls hf hP hS (lv_sub hl [0, 1] rfl)
    · have hf := pn_ifq c6 hf
      refine lv_aload_n hx hb dX1_dropNote_24 rfl (lv_at hl 0 rfl) ?_
      refine lv_iload_n hx hb dX1_dropNote_25 rfl (lv_at hl 1 rfl) ?_
      refine lv_iconst (v := (1)) hx hb dX1_dropNote_26 (by decide) ?_
      refine lv_iadd hx hb dX1_dropNote_27 ?_
      refine lv_aload_n hx hb dX1_dropNote_28 rfl (lv_at hl 0 rfl) ?_
      refine va_get (D := D) (ci := 0) (v := .int v_t_notes) (C := RX1) (T := TX1) (N := 4) hx hb hts hinX1 hown hK.1 hP 0 rfl rfl 2 (by decide) fl_19 (fun _ h9 => h9) rfl dX1_dropNote_29 ?_
      refine lv_iconst (v := (1)) hx hb dX1_dropNote_32 (by decide) ?_
      refine lv_isub hx hb dX1_dropNote_33 ?_
      refine lv_iconst (v := (-1)) hx hb dX1_dropNote_34 (by decide) ?_
      refine lv_bipush (v := (-9)) hx hb dX1_dropNote_35 (by decide) ?_
      refine lv_bipush (v := (-9)) hx hb dX1_dropNote_37 (by decide) ?_
      obtain ⟨r_t_cites_u7, hu7, hf⟩ := pn_bd1_at hf
      refine pn_callv [0, 1, 2] (va_runV (As := [.int (p1 + (1 : Int32)), .int (v_t_notes - (1 : Int32)), .int (-1 : Int32), .int (-9 : Int32), .int (-9 : Int32)]) (rest := []) ⟨hx, hb, hml, hown, hts⟩ (c_X1_mendNumbers l D cI cJ cZ a_t a_t_sizes a_t_cites H.size z5 N v_t_notes r_t_cites r_t_sizes (p1 + (1 : Int32)) (v_t_notes - (1 : Int32)) (-1 : Int32) (-9 : Int32) (-9 : Int32) r_t_cites_u7 hu7) (cwV 5 hts gX1_dropNote_X1_mendNumbers rfl rfl rfl hdX1_mendNumbers ⟨Nat.le_of_ble_eq_true rfl, Nat.le_of_ble_eq_true rfl⟩) (pn_preV [0, 1, 2] hP (hD.addr rfl) hK rfl rfl (q0 := 0) (ci := 0) rfl rfl) rfl rfl hl.1 rfl (lv_room (Nat.le_of_ble_eq_true rfl)) dX1_dropNote_39 ⟨Nat.zero_le _, Nat.zero_le _⟩) hP (hD.addr rfl) hS hA rfl rfl rfl (fun H locs (hP : va_P D vwCl [(a_t, .inr (0, [.ref a_t_sizes, .ref a_t_cites, .int v_t_notes, .int z5])), (a_t_cites, .inl (cJ, 32, .inr (.inl r_t_cites_u7))), (a_t_sizes, .inl (cI, 8, .inl r_t_sizes))] H) _ hS => ?_)
      exact jn42 v_t_notes z5 r_t_cites_u7 r_t_sizes H locs ls hf hP hS (lv_sub hl [0, 1] rfl)
  · have hf := pn_ifq c4 hf
    cases hf
    rw [hQ]
    exact pn_retv hx hb hr hlocks hP hS dX1_dropNote_8
def j_X1_shiftNote_48 (N : Nat) (v_t_notes : Int32) (p1 : Int32) (p2 : Int32) (p3 : Int32) (v_t_version : Int32) (r_t_cites : Nat → Int64) (r_t_sizes : Nat → Int32) : Option (Int32 × (Nat → Int64) × (Nat → Int32)) :=
  if ¬ p3 = (1 : Int32) then
  pn_bd2 (f_X1_rotateNotes N r_t_cites r_t_sizes p1 p2) fun r_t_cites_u2 r_t_sizes_u2 =>
  some (v_t_version, r_t_cites_u2, r_t_sizes_u2)
  else
  if p1 ≤ p2 then
  pn_bd2 (f_X1_rotateNotes N r_t_cites r_t_sizes p1 p2) fun r_t_cites_u4 r_t_sizes_u4 =>
  some (v_t_version, r_t_cites_u4, r_t_sizes_u4)
  else
  pn_bd1 (f_X1_mendNumbers N v_t_notes r_t_cites r_t_sizes p2 (p1 - (1 : Int32)) (1 : Int32) p1 p2) fun r_t_cites_u5 =>
  pn_bd2 (f_X1_rotateNotes N r_t_cites_u5 r_t_sizes p1 p2) fun r_t_cites_u6 r_t_sizes_u6 =>
  some (v_t_version, r_t_cites_u6, r_t_sizes_u6)
def f_X1_shiftNote (N : Nat) (v_t_notes : Int32) (v_t_version : Int32) (r_t_cites : Nat → Int64) (r_t_sizes : Nat → Int32) (p1 : Int32) (p2 : Int32) (p3 : Int32) : Option (Int32 × (Nat → Int64) × (Nat → Int32)) :=
  pn_bd1 (f_X1_hasNote v_t_notes p1) fun ru7 =>
  if ru7 = 0 then
  some (v_t_version, r_t_cites, r_t_sizes)
  else
  pn_bd1 (f_X1_hasNote v_t_notes p2) fun ru9 =>
  if ¬ ru9 = 0 then
  pn_nm (v_t_version + (1 : Int32)) fun z11 =>
  if ¬ p3 = (1 : Int32) then
  j_X1_shiftNote_48 N v_t_notes p1 p2 p3 z11 r_t_cites r_t_sizes
  else
  if p2 ≤ p1 then
  j_X1_shiftNote_48 N v_t_notes p1 p2 p3 z11 r_t_cites r_t_sizes
  else
  pn_bd1 (f_X1_mendNumbers N v_t_notes r_t_cites r_t_sizes (p1 + (1 : Int32)) p2 (-1 : Int32) p1 p2) fun r_t_cites_u14 =>
  j_X1_shiftNote_48 N v_t_notes p1 p2 p3 z11 r_t_cites_u14 r_t_sizes
  else
  some (v_t_version, r_t_cites, r_t_sizes)
set_option maxHeartbeats 4000000 in
set_option maxRecDepth 100000 in
theorem c_X1_shiftNote (l : Launch) (D : va_G) (cI cJ cZ : ClassId) (a_t a_t_sizes a_t_cites : Nat) (sz : Nat) (N : Nat) (v_t_notes : Int32) (v_t_version : Int32) (r_t_cites : Nat → Int64) (r_t_sizes : Nat → Int32) (p1 : Int32) (p2 : Int32) (p3 : Int32) (o_t_version : Int32) (o_t_cites : Nat → Int64) (o_t_sizes : Nat → Int32) (hf : f_X1_shiftNote N v_t_notes v_t_version r_t_cites r_t_sizes p1 p2 p3 = some (o_t_version, o_t_cites, o_t_sizes)) : Met l yX1_shiftNote wsX1_shiftNote { frames := 3, cells := 0, slots := 0, locals := 70 } (pn_Pc D cI cJ cZ [.ref a_t, .int p1, .int p2, .int p3] [(a_t, .inr (0, [.ref a_t_sizes, .ref a_t_cites, .int v_t_notes, .int v_t_version])), (a_t_cites, .inl (cJ, 32, .inr (.inl r_t_cites))), (a_t_sizes, .inl (cI, 8, .inl r_t_sizes))] sz) (pn_Qv D [(a_t, .inr (0, [.ref a_t_sizes, .ref a_t_cites, .int v_t_notes, .int o_t_version])), (a_t_cites, .inl (cJ, 32, .inr (.inl o_t_cites))), (a_t_sizes, .inl (cI, 8, .inl o_t_sizes))] (va_A [(a_t, .inr (0, [.ref a_t_sizes, .ref a_t_cites, .int v_t_notes, .int v_t_version])), (a_t_cites, .inl (cJ, 32, .inr (.inl r_t_cites))), (a_t_sizes, .inl (cI, 8, .inl r_t_sizes))] sz)) 0 0 (va_A [(a_t, .inr (0, [.ref a_t_sizes, .ref a_t_cites, .int v_t_notes, .int v_t_version])), (a_t_cites, .inl (cJ, 32, .inr (.inl r_t_cites))), (a_t_sizes, .inl (cI, 8, .inl r_t_sizes))] sz) := by
  refine pn_entry (cc := cX1_shiftNote) (maxL := 4) (ret := none) (Qf := pn_Qv D [(a_t, .inr (0, [.ref a_t_sizes, .ref a_t_cites, .int v_t_notes, .int o_t_version])), (a_t_cites, .inl (cJ, 32, .inr (.inl o_t_cites))), (a_t_sizes, .inl (cI, 8, .inl o_t_sizes))]) (by decide) rfl (Nat.le_of_ble_eq_true rfl) ?_
  intro p e s m args below meth c A ls H locs Qm hQ hx hb hr hlocks hml hown hts hK hP hD hA hS hl
  have hl : lv_has ls 4 [(0, .ref a_t), (1, .int p1), (2, .int p2), (3, .int p3)] := hl
  have hinX1 : ∀ w ∈ wsX10, w ∈ wsX1_shiftNote := by decide +kernel
  have fl_23 := hts (.fieldLink RX1 23 "PointingNotes$Paper" "version" "I") (by decide +kernel)
  rw [f_X1_shiftNote] at hf
  have jn48 : ∀ (v_t_version : Int32) (r_t_cites : Nat → Int64) (r_t_sizes : Nat → Int32) (H : Heap) (locs : List Loc) (ls : Array Slot), j_X1_shiftNote_48 N v_t_notes p1 p2 p3 v_t_version r_t_cites r_t_sizes = some (o_t_version, o_t_cites, o_t_sizes) → va_P D vwCl [(a_t, .inr (0, [.ref a_t_sizes, .ref a_t_cites, .int v_t_notes, .int v_t_version])), (a_t_cites, .inl (cJ, 32, .inr (.inl r_t_cites))), (a_t_sizes, .inl (cI, 8, .inl r_t_sizes))] H → va_S A s.heap H locs → lv_has ls 4 [(0, .ref a_t), (1, .int p1), (2, .int p2), (3, .int p3)] → W p l e { frames := 3, cells := 0, slots := 0, locals := 70 } s m args below meth c H locs 0 0 Qm (F0 m 48 ls []) := by
    intro v_t_version r_t_cites r_t_sizes H locs ls hf hP hS hl
    rw [j_X1_shiftNote_48] at hf
    refine lv_iload_n hx hb dX1_shiftNote_48 rfl (lv_at hl 3 rfl) ?_
    refine lv_iconst (v := (1)) hx hb dX1_shiftNote_49 (by decide) ?_
    refine lv_icmp_ne (tgt := 69) hx hb dX1_shiftNote_50 (by decide) (fun c1 => ?_) (fun c1 => ?_)
    · have hf := pn_ifp c1 hf
      refine lv_aload_n hx hb dX1_shiftNote_69 rfl (lv_at hl 0 rfl) ?_
      refine lv_iload_n hx hb dX1_shiftNote_70 rfl (lv_at hl 1 rfl) ?_
      refine lv_iload_n hx hb dX1_shiftNote_71 rfl (lv_at hl 2 rfl) ?_
      obtain ⟨r_t_cites_u2, r_t_sizes_u2, hu2, hf⟩ := pn_bd2_at hf
      refine pn_callv [0, 1, 2] (va_runV (As := [.int p1, .int p2]) (rest := []) ⟨hx, hb, hml, hown, hts⟩ (c_X1_rotateNotes l D cI cJ cZ a_t a_t_sizes a_t_cites H.size v_t_notes v_t_version N r_t_cites r_t_sizes p1 p2 r_t_cites_u2 r_t_sizes_u2 hu2) (cwV 2 hts gX1_shiftNote_X1_rotateNotes rfl rfl rfl hdX1_rotateNotes ⟨Nat.le_of_ble_eq_true rfl, Nat.le_of_ble_eq_true rfl⟩) (pn_preV [0, 1, 2] hP (hD.addr rfl) hK rfl rfl (q0 := 0) (ci := 0) rfl rfl) rfl rfl hl.1 rfl (lv_room (Nat.le_of_ble_eq_true rfl)) dX1_shiftNote_72 ⟨Nat.zero_le _, Nat.zero_le _⟩) hP (hD.addr rfl) hS hA rfl rfl rfl (fun H locs (hP : va_P D vwCl [(a_t, .inr (0, [.ref a_t_sizes, .ref a_t_cites, .int v_t_notes, .int v_t_version])), (a_t_cites, .inl (cJ, 32, .inr (.inl r_t_cites_u2))), (a_t_sizes, .inl (cI, 8, .inl r_t_sizes_u2))] H) _ hS => ?_)
      cases hf
      rw [hQ]
      exact pn_retv hx hb hr hlocks hP hS dX1_shiftNote_75
    · have hf := pn_ifq c1 hf
      refine lv_iload_n hx hb dX1_shiftNote_53 rfl (lv_at hl 1 rfl) ?_
      refine lv_iload_n hx hb dX1_shiftNote_54 rfl (lv_at hl 2 rfl) ?_
      refine lv_icmp_le (tgt := 69) hx hb dX1_shiftNote_55 (by decide) (fun c3 => ?_) (fun c3 => ?_)
      · have hf := pn_ifp c3 hf
        refine lv_aload_n hx hb dX1_shiftNote_69 rfl (lv_at hl 0 rfl) ?_
        refine lv_iload_n hx hb dX1_shiftNote_70 rfl (lv_at hl 1 rfl) ?_
        refine lv_iload_n hx hb dX1_shiftNote_71 rfl (lv_at hl 2 rfl) ?_
        obtain ⟨r_t_cites_u4, r_t_sizes_u4, hu4, hf⟩ := pn_bd2_at hf
        refine pn_callv [0, 1, 2] (va_runV (As := [.int p1, .int p2]) (rest := []) ⟨hx, hb, hml, hown, hts⟩ (c_X1_rotateNotes l D cI cJ cZ a_t a_t_sizes a_t_cites H.size v_t_notes v_t_version N r_t_cites r_t_sizes p1 p2 r_t_cites_u4 r_t_sizes_u4 hu4) (cwV 2 hts gX1_shiftNote_X1_rotateNotes rfl rfl rfl hdX1_rotateNotes ⟨Nat.le_of_ble_eq_true rfl, Nat.le_of_ble_eq_true rfl⟩) (pn_preV [0, 1, 2] hP (hD.addr rfl) hK rfl rfl (q0 := 0) (ci := 0) rfl rfl) rfl rfl hl.1 rfl (lv_room (Nat.le_of_ble_eq_true rfl)) dX1_shiftNote_72 ⟨Nat.zero_le _, Nat.zero_le _⟩) hP (hD.addr rfl) hS hA rfl rfl rfl (fun H locs (hP : va_P D vwCl [(a_t, .inr (0, [.ref a_t_sizes, .ref a_t_cites, .int v_t_notes, .int v_t_version])), (a_t_cites, .inl (cJ, 32, .inr (.inl r_t_cites_u4))), (a_t_sizes, .inl (cI, 8, .inl r_t_sizes_u4))] H) _ hS => ?_)
        cases hf
        rw [hQ]
        exact pn_retv hx hb hr hlocks hP hS dX1_shiftNote_75
      · have hf := pn_ifn c3 hf
        refine lv_aload_n hx hb dX1_shiftNote_58 rfl (lv_at hl 0 rfl) ?_
        refine lv_iload_n hx hb dX1_shiftNote_59 rfl (lv_at hl 2 rfl) ?_
        refine lv_iload_n hx hb dX1_shiftNote_60 rfl (lv_at hl 1 rfl) ?_
        refine lv_iconst (v := (1)) hx hb dX1_shiftNote_61 (by decide) ?_
        refine lv_isub hx hb dX1_shiftNote_62 ?_
        refine lv_iconst (v := (1)) hx hb dX1_shiftNote_63 (by decide) ?_
        refine lv_iload_n hx hb dX1_shiftNote_64 rfl (lv_at hl 1 rfl) ?_
        refine lv_iload_n hx hb dX1_shiftNote_65 rfl (lv_at hl 2 rfl) ?_
        obtain ⟨r_t_cites_u5, hu5, hf⟩ := pn_bd1_at hf
        refine pn_callv [0, 1, 2] (va_runV (As := [.int p2, .int (p1 - (1 : Int32)), .int (1 : Int32), .int p1, .int p2]) (rest := []) ⟨hx, hb, hml, hown, hts⟩ (c_X1_mendNumbers l D cI cJ cZ a_t a_t_sizes a_t_cites H.size v_t_version N v_t_notes r_t_cites r_t_sizes p2 (p1 - (1 : Int32)) (1 : Int32) p1 p2 r_t_cites_u5 hu5) (cwV 5 hts gX1_shiftNote_X1_mendNumbers rfl rfl rfl hdX1_mendNumbers ⟨Nat.le_of_ble_eq_true rfl, Nat.le_of_ble_eq_true rfl⟩) (pn_preV [0, 1, 2] hP (hD.addr rfl) hK rfl rfl (q0 := 0) (ci := 0) rfl rfl) rfl rfl hl.1 rfl (lv_room (Nat.le_of_ble_eq_true rfl)) dX1_shiftNote_66 ⟨Nat.zero_le _, Nat.zero_le _⟩) hP (hD.addr rfl) hS hA rfl rfl rfl (fun H locs (hP : va_P D vwCl [(a_t, .inr (0, [.ref a_t_sizes, .ref a_t_cites, .int v_t_notes, .int v_t_version])), (a_t_cites, .inl (cJ, 32, .inr (.inl r_t_cites_u5))), (a_t_sizes, .inl (cI, 8, .inl r_t_sizes))] H) _ hS => ?_)
        refine lv_aload_n hx hb dX1_shiftNote_69 rfl (lv_at hl 0 rfl) ?_
        refine lv_iload_n hx hb dX1_shiftNote_70 rfl (lv_at hl 1 rfl) ?_
        refine lv_iload_n hx hb dX1_shiftNote_71 rfl (lv_at hl 2 rfl) ?_
        obtain ⟨r_t_cites_u6, r_t_sizes_u6, hu6, hf⟩ := pn_bd2_at hf
        refine pn_callv [0, 1, 2] (va_runV (As := [.int p1, .int p2]) (rest := []) ⟨hx, hb, hml, hown, hts⟩ (c_X1_rotateNotes l D cI cJ cZ a_t a_t_sizes a_t_cites H.size v_t_notes v_t_version N r_t_cites_u5 r_t_sizes p1 p2 r_t_cites_u6 r_t_sizes_u6 hu6) (cwV 2 hts gX1_shiftNote_X1_rotateNotes rfl rfl rfl hdX1_rotateNotes ⟨Nat.le_of_ble_eq_true rfl, Nat.le_of_ble_eq_true rfl⟩) (pn_preV [0, 1, 2] hP (hD.addr rfl) hK rfl rfl (q0 := 0) (ci := 0) rfl rfl) rfl rfl hl.1 rfl (lv_room (Nat.le_of_ble_eq_true rfl)) dX1_shiftNote_72 ⟨Nat.zero_le _, Nat.zero_le _⟩) hP (hD.addr rfl) hS hA rfl rfl rfl (fun H locs (hP : va_P D vwCl [(a_t, .inr (0, [.ref a_t_sizes, .ref a_t_cites, .int v_t_notes, .int v_t_version])), (a_t_cites, .inl (cJ, 32, .inr (.inl r_t_cites_u6))), (a_t_sizes, .inl (cI, 8, .inl r_t_sizes_u6))] H) _ hS => ?_)
        cases hf
        rw [hQ]
        exact pn_retv hx hb hr hlocks hP hS dX1_shiftNote_75
  refine lv_aload_n hx hb dX1_shiftNote_0 rfl (lv_at hl 0 rfl) ?_
  refine lv_iload_n hx hb dX1_shiftNote_1 rfl (lv_at hl 1 rfl) ?_
  obtain ⟨ru7, hu7, hf⟩ := pn_bd1_at hf
  refine pn_calli [0] (va_runV (As := [.int p1]) (rest := []) ⟨hx, hb, hml, hown, hts⟩ (c_X1_hasNote l D cI cJ cZ a_t a_t_sizes a_t_cites H.size v_t_version v_t_notes p1 ru7 hu7) (cwV 1 hts gX1_shiftNote_X1_hasNote rfl rfl rfl hdX1_hasNote ⟨Nat.le_of_ble_eq_true rfl, Nat.le_of_ble_eq_true rfl⟩) (pn_preV [0] hP (hD.addr rfl) hK rfl rfl (q0 := 0) (ci := 0) rfl rfl) rfl rfl hl.1 rfl (lv_room (Nat.le_of_ble_eq_true rfl)) dX1_shiftNote_2 ⟨Nat.zero_le _, Nat.zero_le _⟩) hP (hD.addr rfl) hS hA rfl rfl rfl (fun H locs (hP : va_P D vwCl [(a_t, .inr (0, [.ref a_t_sizes, .ref a_t_cites, .int v_t_notes, .int v_t_version])), (a_t_cites, .inl (cJ, 32, .inr (.inl r_t_cites))), (a_t_sizes, .inl (cI, 8, .inl r_t_sizes))] H) _ hS => ?_)
  refine lv_if_eq (tgt := 16) hx hb dX1_shiftNote_5 (by decide) (fun c8 => ?_) (fun c8 => ?_)
  · have hf := pn_ifp c8 hf
    cases hf
    rw [hQ]
    exact pn_retv hx hb hr hlocks hP hS dX1_shiftNote_16
  · have hf := pn_ifn c8 hf
    refine lv_aload_n hx hb dX1_shiftNote_8 rfl (lv_at hl 0 rfl) ?_
    refine lv_iload_n hx hb dX1_shiftNote_9 rfl (lv_at hl 2 rfl) ?_
    obtain ⟨ru9, hu9, hf⟩ := pn_bd1_at hf
    refine pn_calli [0] (va_runV (As := [.int p2]) (rest := []) ⟨hx, hb, hml, hown, hts⟩ (c_X1_hasNote l D cI cJ cZ a_t a_t_sizes a_t_cites H.size v_t_version v_t_notes p2 ru9 hu9) (cwV 1 hts gX1_shiftNote_X1_hasNote rfl rfl rfl hdX1_hasNote ⟨Nat.le_of_ble_eq_true rfl, Nat.le_of_ble_eq_true rfl⟩) (pn_preV [0] hP (hD.addr rfl) hK rfl rfl (q0 := 0) (ci := 0) rfl rfl) rfl rfl hl.1 rfl (lv_room (Nat.le_of_ble_eq_true rfl)) dX1_shiftNote_10 ⟨Nat.zero_le _, Nat.zero_le _⟩) hP (hD.addr rfl) hS hA rfl rfl rfl (fun H locs (hP : va_P D vwCl [(a_t, .inr (0, [.ref a_t_sizes, .ref a_t_cites, .int v_t_notes, .int v_t_version])), (a_t_cites, .inl (cJ, 32, .inr (.inl r_t_cites))), (a_t_sizes, .inl (cI, 8, .inl r_t_sizes))] H) _ hS => ?_)
    refine lv_if_ne (tgt := 17) hx hb dX1_shiftNote_13 (by decide) (fun c10 => ?_) (fun c10 => ?_)
    · have hf := pn_ifp c10 hf
      refine lv_aload_n hx hb dX1_shiftNote_17 rfl (lv_at hl 0 rfl) ?_
      refine lv_dup hx hb dX1_shiftNote_18 rfl ?_
      refine va_get (D := D) (ci := 0) (v := .int v_t_version) (C := RX1) (T := TX1) (N := 4) hx hb hts hinX1 hown hK.1 hP 0 rfl rfl 3 (by decide) fl_23 (fun _ h9 => h9) rfl dX1_shiftNote_19 ?_
      refine lv_iconst (v := (1)) hx hb dX1_shiftNote_22 (by decide) ?_
      refine lv_iadd hx hb dX1_shiftNote_23 ?_
      refine lv_topi (fun z11 ez11 => ?_)
      have hf := pn_nm_at ez11 hf
      refine va_put (D := D) (ci := 0) (v := .int z11) (ty := .int) (C := RX1) (T := TX1) (N := 4) hx hb hts hinX1 tyX1 tyX1_ok nmX1 hown hK.1 hP (hD.addr rfl) hS 0 rfl rfl 3 (by decide) fl_23 (fun _ h9 => h9) rfl (by decide +kernel) rfl rfl (Nat.le_of_ble_eq_true rfl) dX1_shiftNote_24 (fun H locs (hP : va_P D vwCl [(a_t, .inr (0, [.ref a_t_sizes, .ref a_t_cites, .int v_t_notes, .int z11])), (a_t_cites, .inl (cJ, 32, .inr (.inl r_t_cites))), (a_t_sizes, .inl (cI, 8, .inl r_t_sizes))] H) _ hS => ?_)
      refine lv_iload_n hx hb dX1_shiftNote_27 rfl (lv_at hl 3 rfl) ?_
      refine lv_iconst (v := (1)) hx hb dX1_shiftNote_28 (by decide) ?_
      refine lv_icmp_ne (tgt := 48) hx hb dX1_shiftNote_29 (by decide) (fun c12 => ?_) (fun c12 => ?_)
      · have hf := pn_ifp c12 hf
        exact jn48 z11 r_t_cites r_t_sizes H locs ls hf hP hS (lv_sub hl [0, 1, 2, 3] rfl)
      · have hf := pn_ifq c12 hf
        refine lv_iload_n hx hb dX1_shiftNote_32 rfl (lv_at hl 1 rfl) ?_
        refine lv_iload_n hx hb dX1_shiftNote_33 rfl (lv_at hl 2 rfl) ?_
        refine lv_icmp_ge (tgt := 48) hx hb dX1_shiftNote_34 (by decide) (fun c13 => ?_) (fun c13 => ?_)
        · have hf := pn_ifp c13 hf
          exact jn48 z11 r_t_cites r_t_sizes H locs ls hf hP hS (lv_sub hl [0, 1, 2, 3] rfl)
        · have hf := pn_ifn c13 hf
          refine lv_aload_n hx hb dX1_shiftNote_37 rfl (lv_at hl 0 rfl) ?_
          refine lv_iload_n hx hb dX1_shiftNote_38 rfl (lv_at hl 1 rfl) ?_
          refine lv_iconst (v := (1)) hx hb dX1_shiftNote_39 (by decide) ?_
          refine lv_iadd hx hb dX1_shiftNote_40 ?_
          refine lv_iload_n hx hb dX1_shiftNote_41 rfl (lv_at hl 2 rfl) ?_
          refine lv_iconst (v := (-1)) hx hb dX1_shiftNote_42 (by decide) ?_
          refine lv_iload_n hx hb dX1_shiftNote_43 rfl (lv_at hl 1 rfl) ?_
          refine lv_iload_n hx hb dX1_shiftNote_44 rfl (lv_at hl 2 rfl) ?_
          obtain ⟨r_t_cites_u14, hu14, hf⟩ := pn_bd1_at hf
          refine pn_callv [0, 1, 2] (va_runV (As := [.int (p1 + (1 : Int32)), .int p2, .int (-1 : Int32), .int p1, .int p2]) (rest := []) ⟨hx, hb, hml, hown, hts⟩ (c_X1_mendNumbers l D cI cJ cZ a_t a_t_sizes a_t_cites H.size z11 N v_t_notes r_t_cites r_t_sizes (p1 + (1 : Int32)) p2 (-1 : Int32) p1 p2 r_t_cites_u14 hu14) (cwV 5 hts gX1_shiftNote_X1_mendNumbers rfl rfl rfl hdX1_mendNumbers ⟨Nat.le_of_ble_eq_true rfl, Nat.le_of_ble_eq_true rfl⟩) (pn_preV [0, 1, 2] hP (hD.addr rfl) hK rfl rfl (q0 := 0) (ci := 0) rfl rfl) rfl rfl hl.1 rfl (lv_room (Nat.le_of_ble_eq_true rfl)) dX1_shiftNote_45 ⟨Nat.zero_le _, Nat.zero_le _⟩) hP (hD.addr rfl) hS hA rfl rfl rfl (fun H locs (hP : va_P D vwCl [(a_t, .inr (0, [.ref a_t_sizes, .ref a_t_cites, .int v_t_notes, .int z11])), (a_t_cites, .inl (cJ, 32, .inr (.inl r_t_cites_u14))), (a_t_sizes, .inl (cI, 8, .inl r_t_sizes))] H) _ hS => ?_)
          exact jn48 z11 r_t_cites_u14 r_t_sizes H locs ls hf hP hS (lv_sub hl [0, 1, 2, 3] rfl)
    · have hf := pn_ifq c10 hf
      cases hf
      rw [hQ]
      exact pn_retv hx hb hr hlocks hP hS dX1_shiftNote_16
