theorem hdX5_length : yX5_length.cls = RX5 ∧ yX5_length.cls ≠ "java/lang/invoke/MethodHandle" ∧ yX5_length.cls ≠ "java/lang/invoke/VarHandle" ∧ (parseMethodDescriptor yX5_length.desc).map (fun d => d.parameters.length) = some 0 := by decide +kernel
theorem hdX5_clear : yX5_clear.cls = RX5 ∧ yX5_clear.cls ≠ "java/lang/invoke/MethodHandle" ∧ yX5_clear.cls ≠ "java/lang/invoke/VarHandle" ∧ (parseMethodDescriptor yX5_clear.desc).map (fun d => d.parameters.length) = some 0 := by decide +kernel
theorem hdX5_append : yX5_append.cls = RX5 ∧ yX5_append.cls ≠ "java/lang/invoke/MethodHandle" ∧ yX5_append.cls ≠ "java/lang/invoke/VarHandle" ∧ (parseMethodDescriptor yX5_append.desc).map (fun d => d.parameters.length) = some 1 := by decide +kernel
theorem hdX5_advance : yX5_advance.cls = RX5 ∧ yX5_advance.cls ≠ "java/lang/invoke/MethodHandle" ∧ yX5_advance.cls ≠ "java/lang/invoke/VarHandle" ∧ (parseMethodDescriptor yX5_advance.desc).map (fun d => d.parameters.length) = some 0 := by decide +kernel
theorem hdX5_isLetter : yX5_isLetter.cls ≠ "java/lang/invoke/MethodHandle" ∧ yX5_isLetter.cls ≠ "java/lang/invoke/VarHandle" ∧ (parseMethodDescriptor yX5_isLetter.desc).map (fun d => d.parameters.length) = some 1 := by decide +kernel
theorem hdX5_isDigit : yX5_isDigit.cls ≠ "java/lang/invoke/MethodHandle" ∧ yX5_isDigit.cls ≠ "java/lang/invoke/VarHandle" ∧ (parseMethodDescriptor yX5_isDigit.desc).map (fun d => d.parameters.length) = some 1 := by decide +kernel
theorem hdX5_readPage : yX5_readPage.cls = RX5 ∧ yX5_readPage.cls ≠ "java/lang/invoke/MethodHandle" ∧ yX5_readPage.cls ≠ "java/lang/invoke/VarHandle" ∧ (parseMethodDescriptor yX5_readPage.desc).map (fun d => d.parameters.length) = some 0 := by decide +kernel
theorem hdX5_readPin : yX5_readPin.cls = RX5 ∧ yX5_readPin.cls ≠ "java/lang/invoke/MethodHandle" ∧ yX5_readPin.cls ≠ "java/lang/invoke/VarHandle" ∧ (parseMethodDescriptor yX5_readPin.desc).map (fun d => d.parameters.length) = some 1 := by decide +kernel
theorem hdX5_readReport : yX5_readReport.cls = RX5 ∧ yX5_readReport.cls ≠ "java/lang/invoke/MethodHandle" ∧ yX5_readReport.cls ≠ "java/lang/invoke/VarHandle" ∧ (parseMethodDescriptor yX5_readReport.desc).map (fun d => d.parameters.length) = some 2 := by decide +kernel
theorem hdX5_readNamed : yX5_readNamed.cls = RX5 ∧ yX5_readNamed.cls ≠ "java/lang/invoke/MethodHandle" ∧ yX5_readNamed.cls ≠ "java/lang/invoke/VarHandle" ∧ (parseMethodDescriptor yX5_readNamed.desc).map (fun d => d.parameters.length) = some 0 := by decide +kernel
theorem hdX5_readAbove : yX5_readAbove.cls = RX5 ∧ yX5_readAbove.cls ≠ "java/lang/invoke/MethodHandle" ∧ yX5_readAbove.cls ≠ "java/lang/invoke/VarHandle" ∧ (parseMethodDescriptor yX5_readAbove.desc).map (fun d => d.parameters.length) = some 0 := by decide +kernel
theorem hdX5_readCite : yX5_readCite.cls = RX5 ∧ yX5_readCite.cls ≠ "java/lang/invoke/MethodHandle" ∧ yX5_readCite.cls ≠ "java/lang/invoke/VarHandle" ∧ (parseMethodDescriptor yX5_readCite.desc).map (fun d => d.parameters.length) = some 0 := by decide +kernel
theorem hdX5_readInto : yX5_readInto.cls = RX5 ∧ yX5_readInto.cls ≠ "java/lang/invoke/MethodHandle" ∧ yX5_readInto.cls ≠ "java/lang/invoke/VarHandle" ∧ (parseMethodDescriptor yX5_readInto.desc).map (fun d => d.parameters.length) = some 1 := by decide +kernel
def f_X5_length (v_t_length : Int32) : Option (Int32) :=
  some v_t_length
set_option maxHeartbeats 4000000 in
set_option maxRecDepth 100000 in
theorem c_X5_length (l : Launch) (D : va_G) (cI cJ cZ : ClassId) (a_t a_t_signs : Nat) (sz : Nat) (v_t_place : Int32) (v_t_sign : Int32) (v_t_length : Int32) (rR : Int32) (hf : f_X5_length v_t_length = some rR) : Met l yX5_length wsX5_length { frames := 0, cells := 0, slots := 0, locals := 0 } (pn_Pc D cI cJ cZ [.ref a_t] [(a_t, .inr (4, [.ref a_t_signs, .int v_t_length, .int v_t_place, .int v_t_sign]))] sz) (pn_Qi D rR [(a_t, .inr (4, [.ref a_t_signs, .int v_t_length, .int v_t_place, .int v_t_sign]))] (va_A [(a_t, .inr (4, [.ref a_t_signs, .int v_t_length, .int v_t_place, .int v_t_sign]))] sz)) 0 0 (va_A [(a_t, .inr (4, [.ref a_t_signs, .int v_t_length, .int v_t_place, .int v_t_sign]))] sz) := by
  refine pn_entry (cc := cX5_length) (maxL := 1) (ret := (some .int)) (Qf := pn_Qi D rR [(a_t, .inr (4, [.ref a_t_signs, .int v_t_length, .int v_t_place, .int v_t_sign]))]) (by decide) rfl (Nat.le_of_ble_eq_true rfl) ?_
  intro p e s m args below meth c A ls H locs Qm hQ hx hb hr hlocks hml hown hts hK hP hD hA hS hl
  have hl : lv_has ls 1 [(0, .ref a_t)] := hl
  have hinX5 : ∀ w ∈ wsX50, w ∈ wsX5_length := by decide +kernel
  have fl_15 := hts (.fieldLink RX5 15 "PointingNotes$Text" "length" "I") (by decide +kernel)
  rw [f_X5_length] at hf
  refine lv_aload_n hx hb dX5_length_0 rfl (lv_at hl 0 rfl) ?_
  refine va_get (D := D) (ci := 4) (v := .int v_t_length) (C := RX5) (T := TX5) (N := 4) hx hb hts hinX5 hown hK.1 hP 0 rfl rfl 1 (by decide) fl_15 (fun _ h9 => h9) rfl dX5_length_1 ?_
  cases hf
  rw [hQ]
  exact pn_reti hx hb hr hlocks hP hS rfl dX5_length_4
def f_X5_clear (v_t_length : Int32) : Option (Int32) :=
  some (0 : Int32)
set_option maxHeartbeats 4000000 in
set_option maxRecDepth 100000 in
theorem c_X5_clear (l : Launch) (D : va_G) (cI cJ cZ : ClassId) (a_t a_t_signs : Nat) (sz : Nat) (v_t_place : Int32) (v_t_sign : Int32) (v_t_length : Int32) (o_t_length : Int32) (hf : f_X5_clear v_t_length = some o_t_length) : Met l yX5_clear wsX5_clear { frames := 0, cells := 0, slots := 0, locals := 0 } (pn_Pc D cI cJ cZ [.ref a_t] [(a_t, .inr (4, [.ref a_t_signs, .int v_t_length, .int v_t_place, .int v_t_sign]))] sz) (pn_Qv D [(a_t, .inr (4, [.ref a_t_signs, .int o_t_length, .int v_t_place, .int v_t_sign]))] (va_A [(a_t, .inr (4, [.ref a_t_signs, .int v_t_length, .int v_t_place, .int v_t_sign]))] sz)) 0 0 (va_A [(a_t, .inr (4, [.ref a_t_signs, .int v_t_length, .int v_t_place, .int v_t_sign]))] sz) := by
  refine pn_entry (cc := cX5_clear) (maxL := 1) (ret := none) (Qf := pn_Qv D [(a_t, .inr (4, [.ref a_t_signs, .int o_t_length, .int v_t_place, .int v_t_sign]))]) (by decide) rfl (Nat.le_of_ble_eq_true rfl) ?_
  intro p e s m args below meth c A ls H locs Qm hQ hx hb hr hlocks hml hown hts hK hP hD hA hS hl
  have hl : lv_has ls 1 [(0, .ref a_t)] := hl
  have hinX5 : ∀ w ∈ wsX50, w ∈ wsX5_clear := by decide +kernel
  have fl_15 := hts (.fieldLink RX5 15 "PointingNotes$Text" "length" "I") (by decide +kernel)
  rw [f_X5_clear] at hf
  refine lv_aload_n hx hb dX5_clear_0 rfl (lv_at hl 0 rfl) ?_
  refine lv_iconst (v := (0)) hx hb dX5_clear_1 (by decide) ?_
  refine va_put (D := D) (ci := 4) (v := .int (0 : Int32)) (ty := .int) (C := RX5) (T := TX5) (N := 4) hx hb hts hinX5 tyX5 tyX5_ok nmX5 hown hK.1 hP (hD.addr rfl) hS 0 rfl rfl 1 (by decide) fl_15 (fun _ h9 => h9) rfl (by decide +kernel) rfl rfl (Nat.le_of_ble_eq_true rfl) dX5_clear_2 (fun H locs (hP : va_P D vwCl [(a_t, .inr (4, [.ref a_t_signs, .int ((0 : Int32)), .int v_t_place, .int v_t_sign]))] H) _ hS => ?_)
  cases hf
  rw [hQ]
  exact pn_retv hx hb hr hlocks hP hS dX5_clear_5
def f_X5_append (v_t_length : Int32) (r_t_signs : Nat → Int32) (p1 : Int32) : Option (Int32 × Int32 × (Nat → Int32)) :=
  if v_t_length < (120 : Int32) then
  pn_wrI 120 r_t_signs v_t_length p1 fun g2 =>
  pn_nm (v_t_length + (1 : Int32)) fun z4 =>
  some ((1 : Int32), z4, g2)
  else
  some ((0 : Int32), v_t_length, r_t_signs)
set_option maxHeartbeats 4000000 in
set_option maxRecDepth 100000 in
theorem c_X5_append (l : Launch) (D : va_G) (cI cJ cZ : ClassId) (a_t a_t_signs : Nat) (sz : Nat) (v_t_place : Int32) (v_t_sign : Int32) (v_t_length : Int32) (r_t_signs : Nat → Int32) (p1 : Int32) (rR : Int32) (o_t_length : Int32) (o_t_signs : Nat → Int32) (hf : f_X5_append v_t_length r_t_signs p1 = some (rR, o_t_length, o_t_signs)) : Met l yX5_append wsX5_append { frames := 0, cells := 0, slots := 0, locals := 0 } (pn_Pc D cI cJ cZ [.ref a_t, .int p1] [(a_t, .inr (4, [.ref a_t_signs, .int v_t_length, .int v_t_place, .int v_t_sign])), (a_t_signs, .inl (cI, 120, .inl r_t_signs))] sz) (pn_Qi D rR [(a_t, .inr (4, [.ref a_t_signs, .int o_t_length, .int v_t_place, .int v_t_sign])), (a_t_signs, .inl (cI, 120, .inl o_t_signs))] (va_A [(a_t, .inr (4, [.ref a_t_signs, .int v_t_length, .int v_t_place, .int v_t_sign])), (a_t_signs, .inl (cI, 120, .inl r_t_signs))] sz)) 0 0 (va_A [(a_t, .inr (4, [.ref a_t_signs, .int v_t_length, .int v_t_place, .int v_t_sign])), (a_t_signs, .inl (cI, 120, .inl r_t_signs))] sz) := by
  refine pn_entry (cc := cX5_append) (maxL := 2) (ret := (some .boolean)) (Qf := pn_Qi D rR [(a_t, .inr (4, [.ref a_t_signs, .int o_t_length, .int v_t_place, .int v_t_sign])), (a_t_signs, .inl (cI, 120, .inl o_t_signs))]) (by decide) rfl (Nat.le_of_ble_eq_true rfl) ?_
  intro p e s m args below meth c A ls H locs Qm hQ hx hb hr hlocks hml hown hts hK hP hD hA hS hl
  have hl : lv_has ls 2 [(0, .ref a_t), (1, .int p1)] := hl
  have hinX5 : ∀ w ∈ wsX50, w ∈ wsX5_append := by decide +kernel
  have fl_9 := hts (.fieldLink RX5 9 "PointingNotes$Text" "signs" "[I") (by decide +kernel)
  have fl_15 := hts (.fieldLink RX5 15 "PointingNotes$Text" "length" "I") (by decide +kernel)
  rw [f_X5_append] at hf
  refine lv_aload_n hx hb dX5_append_0 rfl (lv_at hl 0 rfl) ?_
  refine va_get (D := D) (ci := 4) (v := .int v_t_length) (C := RX5) (T := TX5) (N := 4) hx hb hts hinX5 hown hK.1 hP 0 rfl rfl 1 (by decide) fl_15 (fun _ h9 => h9) rfl dX5_append_1 ?_
  refine lv_bipush (v := (120)) hx hb dX5_append_4 (by decide) ?_
  refine lv_icmp_lt (tgt := 11) hx hb dX5_append_6 (by decide) (fun c1 => ?_) (fun c1 => ?_)
  · have hf := pn_ifp c1 hf
    refine lv_aload_n hx hb dX5_append_11 rfl (lv_at hl 0 rfl) ?_
    refine va_get (D := D) (ci := 4) (v := .ref a_t_signs) (C := RX5) (T := TX5) (N := 4) hx hb hts hinX5 hown hK.1 hP 0 rfl rfl 0 (by decide) fl_9 (fun _ h9 => h9) rfl dX5_append_12 ?_
    refine lv_aload_n hx hb dX5_append_15 rfl (lv_at hl 0 rfl) ?_
    refine va_get (D := D) (ci := 4) (v := .int v_t_length) (C := RX5) (T := TX5) (N := 4) hx hb hts hinX5 hown hK.1 hP 0 rfl rfl 1 (by decide) fl_15 (fun _ h9 => h9) rfl dX5_append_16 ?_
    refine lv_iload_n hx hb dX5_append_19 rfl (lv_at hl 1 rfl) ?_
    obtain ⟨hi3, g2, eg2, hf⟩ := pn_wrI_at hf
    refine pn_stI hx hb hK.1 hP (hD.addr rfl) hS 1 0 rfl rfl hi3 eg2 dX5_append_20 (fun H locs (hP : va_P D vwCl [(a_t, .inr (4, [.ref a_t_signs, .int v_t_length, .int v_t_place, .int v_t_sign])), (a_t_signs, .inl (cI, 120, .inl g2))] H) _ hS => ?_)
    refine lv_aload_n hx hb dX5_append_21 rfl (lv_at hl 0 rfl) ?_
    refine lv_dup hx hb dX5_append_22 rfl ?_
    refine va_get (D := D) (ci := 4) (v := .int v_t_length) (C := RX5) (T := TX5) (N := 4) hx hb hts hinX5 hown hK.1 hP 0 rfl rfl 1 (by decide) fl_15 (fun _ h9 => h9) rfl dX5_append_23 ?_
    refine lv_iconst (v := (1)) hx hb dX5_append_26 (by decide) ?_
    refine lv_iadd hx hb dX5_append_27 ?_
    refine lv_topi (fun z4 ez4 => ?_)
    have hf := pn_nm_at ez4 hf
    refine va_put (D := D) (ci := 4) (v := .int z4) (ty := .int) (C := RX5) (T := TX5) (N := 4) hx hb hts hinX5 tyX5 tyX5_ok nmX5 hown hK.1 hP (hD.addr rfl) hS 0 rfl rfl 1 (by decide) fl_15 (fun _ h9 => h9) rfl (by decide +kernel) rfl rfl (Nat.le_of_ble_eq_true rfl) dX5_append_28 (fun H locs (hP : va_P D vwCl [(a_t, .inr (4, [.ref a_t_signs, .int z4, .int v_t_place, .int v_t_sign])), (a_t_signs, .inl (cI, 120, .inl g2))] H) _ hS => ?_)
    refine lv_iconst (v := (1)) hx hb dX5_append_31 (by decide) ?_
    cases hf
    rw [hQ]
    exact pn_retz hx hb hr hlocks hP hS rfl rfl dX5_append_32
  · have hf := pn_ifn c1 hf
    refine lv_iconst (v := (0)) hx hb dX5_append_9 (by decide) ?_
    cases hf
    rw [hQ]
    exact pn_retz hx hb hr hlocks hP hS rfl rfl dX5_append_10
def f_X5_advance (v_t_length : Int32) (v_t_place : Int32) (v_t_sign : Int32) (r_t_signs : Nat → Int32) : Option (Int32 × Int32) :=
  pn_nm (v_t_place + (1 : Int32)) fun z1 =>
  if z1 < 0 then
  some (z1, (-9 : Int32))
  else
  if v_t_length ≤ z1 then
  some (z1, (-9 : Int32))
  else
  if (120 : Int32) ≤ z1 then
  some (z1, (-9 : Int32))
  else
  pn_rd 120 r_t_signs z1 fun w5 =>
  some (z1, w5)
set_option maxHeartbeats 4000000 in
set_option maxRecDepth 100000 in
theorem c_X5_advance (l : Launch) (D : va_G) (cI cJ cZ : ClassId) (a_t a_t_signs : Nat) (sz : Nat) (v_t_length : Int32) (v_t_place : Int32) (v_t_sign : Int32) (r_t_signs : Nat → Int32) (o_t_place : Int32) (o_t_sign : Int32) (hf : f_X5_advance v_t_length v_t_place v_t_sign r_t_signs = some (o_t_place, o_t_sign)) : Met l yX5_advance wsX5_advance { frames := 0, cells := 0, slots := 0, locals := 0 } (pn_Pc D cI cJ cZ [.ref a_t] [(a_t, .inr (4, [.ref a_t_signs, .int v_t_length, .int v_t_place, .int v_t_sign])), (a_t_signs, .inl (cI, 120, .inl r_t_signs))] sz) (pn_Qv D [(a_t, .inr (4, [.ref a_t_signs, .int v_t_length, .int o_t_place, .int o_t_sign])), (a_t_signs, .inl (cI, 120, .inl r_t_signs))] (va_A [(a_t, .inr (4, [.ref a_t_signs, .int v_t_length, .int v_t_place, .int v_t_sign])), (a_t_signs, .inl (cI, 120, .inl r_t_signs))] sz)) 0 0 (va_A [(a_t, .inr (4, [.ref a_t_signs, .int v_t_length, .int v_t_place, .int v_t_sign])), (a_t_signs, .inl (cI, 120, .inl r_t_signs))] sz) := by
  refine pn_entry (cc := cX5_advance) (maxL := 1) (ret := none) (Qf := pn_Qv D [(a_t, .inr (4, [.ref a_t_signs, .int v_t_length, .int o_t_place, .int o_t_sign])), (a_t_signs, .inl (cI, 120, .inl r_t_signs))]) (by decide) rfl (Nat.le_of_ble_eq_true rfl) ?_
  intro p e s m args below meth c A ls H locs Qm hQ hx hb hr hlocks hml hown hts hK hP hD hA hS hl
  have hl : lv_has ls 1 [(0, .ref a_t)] := hl
  have hinX5 : ∀ w ∈ wsX50, w ∈ wsX5_advance := by decide +kernel
  have fl_9 := hts (.fieldLink RX5 9 "PointingNotes$Text" "signs" "[I") (by decide +kernel)
  have fl_15 := hts (.fieldLink RX5 15 "PointingNotes$Text" "length" "I") (by decide +kernel)
  have fl_19 := hts (.fieldLink RX5 19 "PointingNotes$Text" "place" "I") (by decide +kernel)
  have fl_43 := hts (.fieldLink RX5 43 "PointingNotes$Text" "sign" "I") (by decide +kernel)
  rw [f_X5_advance] at hf
  refine lv_aload_n hx hb dX5_advance_0 rfl (lv_at hl 0 rfl) ?_
  refine lv_dup hx hb dX5_advance_1 rfl ?_
  refine va_get (D := D) (ci := 4) (v := .int v_t_place) (C := RX5) (T := TX5) (N := 4) hx hb hts hinX5 hown hK.1 hP 0 rfl rfl 2 (by decide) fl_19 (fun _ h9 => h9) rfl dX5_advance_2 ?_
  refine lv_iconst (v := (1)) hx hb dX5_advance_5 (by decide) ?_
  refine lv_iadd hx hb dX5_advance_6 ?_
  refine lv_topi (fun z1 ez1 => ?_)
  have hf := pn_nm_at ez1 hf
  refine va_put (D := D) (ci := 4) (v := .int z1) (ty := .int) (C := RX5) (T := TX5) (N := 4) hx hb hts hinX5 tyX5 tyX5_ok nmX5 hown hK.1 hP (hD.addr rfl) hS 0 rfl rfl 2 (by decide) fl_19 (fun _ h9 => h9) rfl (by decide +kernel) rfl rfl (Nat.le_of_ble_eq_true rfl) dX5_advance_7 (fun H locs (hP : va_P D vwCl [(a_t, .inr (4, [.ref a_t_signs, .int v_t_length, .int z1, .int v_t_sign])), (a_t_signs, .inl (cI, 120, .inl r_t_signs))] H) _ hS => ?_)
  refine lv_aload_n hx hb dX5_advance_10 rfl (lv_at hl 0 rfl) ?_
  refine lv_aload_n hx hb dX5_advance_11 rfl (lv_at hl 0 rfl) ?_
  refine va_get (D := D) (ci := 4) (v := .int z1) (C := RX5) (T := TX5) (N := 4) hx hb hts hinX5 hown hK.1 hP 0 rfl rfl 2 (by decide) fl_19 (fun _ h9 => h9) rfl dX5_advance_12 ?_
  refine lv_if_lt (tgt := 50) hx hb dX5_advance_15 (by decide) (fun c2 => ?_) (fun c2 => ?_)
  · have hf := pn_ifp c2 hf
    refine lv_bipush (v := (-9)) hx hb dX5_advance_50 (by decide) ?_
    refine va_put (D := D) (ci := 4) (v := .int (-9 : Int32)) (ty := .int) (C := RX5) (T := TX5) (N := 4) hx hb hts hinX5 tyX5 tyX5_ok nmX5 hown hK.1 hP (hD.addr rfl) hS 0 rfl rfl 3 (by decide) fl_43 (fun _ h9 => h9) rfl (by decide +kernel) rfl rfl (Nat.le_of_ble_eq_true rfl) dX5_advance_52 (fun H locs (hP : va_P D vwCl [(a_t, .inr (4, [.ref a_t_signs, .int v_t_length, .int z1, .int ((-9 : Int32))])), (a_t_signs, .inl (cI, 120, .inl r_t_signs))] H) _ hS => ?_)
    cases hf
    rw [hQ]
    exact pn_retv hx hb hr hlocks hP hS dX5_advance_55
  · have hf := pn_ifn c2 hf
    refine lv_aload_n hx hb dX5_advance_18 rfl (lv_at hl 0 rfl) ?_
    refine va_get (D := D) (ci := 4) (v := .int z1) (C := RX5) (T := TX5) (N := 4) hx hb hts hinX5 hown hK.1 hP 0 rfl rfl 2 (by decide) fl_19 (fun _ h9 => h9) rfl dX5_advance_19 ?_
    refine lv_aload_n hx hb dX5_advance_22 rfl (lv_at hl 0 rfl) ?_
    refine va_get (D := D) (ci := 4) (v := .int v_t_length) (C := RX5) (T := TX5) (N := 4) hx hb hts hinX5 hown hK.1 hP 0 rfl rfl 1 (by decide) fl_15 (fun _ h9 => h9) rfl dX5_advance_23 ?_
    refine lv_icmp_ge (tgt := 50) hx hb dX5_advance_26 (by decide) (fun c3 => ?_) (fun c3 => ?_)
    · have hf := pn_ifp c3 hf
      refine lv_bipush (v := (-9)) hx hb dX5_advance_50 (by decide) ?_
      refine va_put (D := D) (ci := 4) (v := .int (-9 : Int32)) (ty := .int) (C := RX5) (T := TX5) (N := 4) hx hb hts hinX5 tyX5 tyX5_ok nmX5 hown hK.1 hP (hD.addr rfl) hS 0 rfl rfl 3 (by decide) fl_43 (fun _ h9 => h9) rfl (by decide +kernel) rfl rfl (Nat.le_of_ble_eq_true rfl) dX5_advance_52 (fun H locs (hP : va_P D vwCl [(a_t, .inr (4, [.ref a_t_signs, .int v_t_length, .int z1, .int ((-9 : Int32))])), (a_t_signs, .inl (cI, 120, .inl r_t_signs))] H) _ hS => ?_)
      cases hf
      rw [hQ]
      exact pn_retv hx hb hr hlocks hP hS dX5_advance_55
    · have hf := pn_ifn c3 hf
      refine lv_aload_n hx hb dX5_advance_29 rfl (lv_at hl 0 rfl) ?_
      refine va_get (D := D) (ci := 4) (v := .int z1) (C := RX5) (T := TX5) (N := 4) hx hb hts hinX5 hown hK.1 hP 0 rfl rfl 2 (by decide) fl_19 (fun _ h9 => h9) rfl dX5_advance_30 ?_
      refine lv_bipush (v := (120)) hx hb dX5_advance_33 (by decide) ?_
      refine lv_icmp_ge (tgt := 50) hx hb dX5_advance_35 (by decide) (fun c4 => ?_) (fun c4 => ?_)
      · have hf := pn_ifp c4 hf
        refine lv_bipush (v := (-9)) hx hb dX5_advance_50 (by decide) ?_
        refine va_put (D := D) (ci := 4) (v := .int (-9 : Int32)) (ty := .int) (C := RX5) (T := TX5) (N := 4) hx hb hts hinX5 tyX5 tyX5_ok nmX5 hown hK.1 hP (hD.addr rfl) hS 0 rfl rfl 3 (by decide) fl_43 (fun _ h9 => h9) rfl (by decide +kernel) rfl rfl (Nat.le_of_ble_eq_true rfl) dX5_advance_52 (fun H locs (hP : va_P D vwCl [(a_t, .inr (4, [.ref a_t_signs, .int v_t_length, .int z1, .int ((-9 : Int32))])), (a_t_signs, .inl (cI, 120, .inl r_t_signs))] H) _ hS => ?_)
        cases hf
        rw [hQ]
        exact pn_retv hx hb hr hlocks hP hS dX5_advance_55
      · have hf := pn_ifn c4 hf
        refine lv_aload_n hx hb dX5_advance_38 rfl (lv_at hl 0 rfl) ?_
        refine va_get (D := D) (ci := 4) (v := .ref a_t_signs) (C := RX5) (T := TX5) (N := 4) hx hb hts hinX5 hown hK.1 hP 0 rfl rfl 0 (by decide) fl_9 (fun _ h9 => h9) rfl dX5_advance_39 ?_
        refine lv_aload_n hx hb dX5_advance_42 rfl (lv_at hl 0 rfl) ?_
        refine va_get (D := D) (ci := 4) (v := .int z1) (C := RX5) (T := TX5) (N := 4) hx hb hts hinX5 hown hK.1 hP 0 rfl rfl 2 (by decide) fl_19 (fun _ h9 => h9) rfl dX5_advance_43 ?_
        obtain ⟨hi6, w5, ew5, hf⟩ := pn_rd_at hf
        refine pn_ldI hx hb hK.1 hP 1 0 rfl rfl hi6 ew5 dX5_advance_46 ?_
        refine lv_goto (tgt := 52) hx hb dX5_advance_47 (by decide) ?_
        refine va_put (D := D) (ci := 4) (v := .int w5) (ty := .int) (C := RX5) (T := TX5) (N := 4) hx hb hts hinX5 tyX5 tyX5_ok nmX5 hown hK.1 hP (hD.addr rfl) hS 0 rfl rfl 3 (by decide) fl_43 (fun _ h9 => h9) rfl (by decide +kernel) rfl rfl (Nat.le_of_ble_eq_true rfl) dX5_advance_52 (fun H locs (hP : va_P D vwCl [(a_t, .inr (4, [.ref a_t_signs, .int v_t_length, .int z1, .int w5])), (a_t_signs, .inl (cI, 120, .inl r_t_signs))] H) _ hS => ?_)
        cases hf
        rw [hQ]
        exact pn_retv hx hb hr hlocks hP hS dX5_advance_55
def f_X5_isLetter (p0 : Int32) : Option (Int32) :=
  if p0 < (65 : Int32) then
  some (0 : Int32)
  else
  if (70 : Int32) < p0 then
  some (0 : Int32)
  else
  some (1 : Int32)
set_option maxHeartbeats 4000000 in
set_option maxRecDepth 100000 in
theorem c_X5_isLetter (l : Launch) (D : va_G) (cI cJ cZ : ClassId) (sz : Nat) (p0 : Int32) (rR : Int32) (hf : f_X5_isLetter p0 = some rR) : Met l yX5_isLetter wsX5_isLetter { frames := 0, cells := 0, slots := 0, locals := 0 } (pn_Pc D cI cJ cZ [.int p0] [] sz) (pn_Qi D rR [] (va_A [] sz)) 0 0 (va_A [] sz) := by
  refine pn_entry (cc := cX5_isLetter) (maxL := 1) (ret := (some .boolean)) (Qf := pn_Qi D rR []) (by decide) rfl (Nat.le_of_ble_eq_true rfl) ?_
  intro p e s m args below meth c A ls H locs Qm hQ hx hb hr hlocks hml hown hts hK hP hD hA hS hl
  have hl : lv_has ls 1 [(0, .int p0)] := hl
  rw [f_X5_isLetter] at hf
  refine lv_iload_n hx hb dX5_isLetter_0 rfl (lv_at hl 0 rfl) ?_
  refine lv_bipush (v := (65)) hx hb dX5_isLetter_1 (by decide) ?_
  refine lv_icmp_lt (tgt := 16) hx hb dX5_isLetter_3 (by decide) (fun c1 => ?_) (fun c1 => ?_)
  · have hf := pn_ifp c1 hf
    refine lv_iconst (v := (0)) hx hb dX5_isLetter_16 (by decide) ?_
    cases hf
    rw [hQ]
    exact pn_retz hx hb hr hlocks hP hS rfl rfl dX5_isLetter_17
  · have hf := pn_ifn c1 hf
    refine lv_iload_n hx hb dX5_isLetter_6 rfl (lv_at hl 0 rfl) ?_
    refine lv_bipush (v := (70)) hx hb dX5_isLetter_7 (by decide) ?_
    refine lv_icmp_gt (tgt := 16) hx hb dX5_isLetter_9 (by decide) (fun c2 => ?_) (fun c2 => ?_)
    · have hf := pn_ifp c2 hf
      refine lv_iconst (v := (0)) hx hb dX5_isLetter_16 (by decide) ?_
      cases hf
      rw [hQ]
      exact pn_retz hx hb hr hlocks hP hS rfl rfl dX5_isLetter_17
    · have hf := pn_ifn c2 hf
      refine lv_iconst (v := (1)) hx hb dX5_isLetter_12 (by decide) ?_
      refine lv_goto (tgt := 17) hx hb dX5_isLetter_13 (by decide) ?_
      cases hf
      rw [hQ]
      exact pn_retz hx hb hr hlocks hP hS rfl rfl dX5_isLetter_17
def f_X5_isDigit (p0 : Int32) : Option (Int32) :=
  if p0 < (48 : Int32) then
  some (0 : Int32)
  else
  if (57 : Int32) < p0 then
  some (0 : Int32)
  else
  some (1 : Int32)
set_option maxHeartbeats 4000000 in
set_option maxRecDepth 100000 in
theorem c_X5_isDigit (l : Launch) (D : va_G) (cI cJ cZ : ClassId) (sz : Nat) (p0 : Int32) (rR : Int32) (hf : f_X5_isDigit p0 = some rR) : Met l yX5_isDigit wsX5_isDigit { frames := 0, cells := 0, slots := 0, locals := 0 } (pn_Pc D cI cJ cZ [.int p0] [] sz) (pn_Qi D rR [] (va_A [] sz)) 0 0 (va_A [] sz) := by
  refine pn_entry (cc := cX5_isDigit) (maxL := 1) (ret := (some .boolean)) (Qf := pn_Qi D rR []) (by decide) rfl (Nat.le_of_ble_eq_true rfl) ?_
  intro p e s m args below meth c A ls H locs Qm hQ hx hb hr hlocks hml hown hts hK hP hD hA hS hl
  have hl : lv_has ls 1 [(0, .int p0)] := hl
  rw [f_X5_isDigit] at hf
  refine lv_iload_n hx hb dX5_isDigit_0 rfl (lv_at hl 0 rfl) ?_
  refine lv_bipush (v := (48)) hx hb dX5_isDigit_1 (by decide) ?_
  refine lv_icmp_lt (tgt := 16) hx hb dX5_isDigit_3 (by decide) (fun c1 => ?_) (fun c1 => ?_)
  · have hf := pn_ifp c1 hf
    refine lv_iconst (v := (0)) hx hb dX5_isDigit_16 (by decide) ?_
    cases hf
    rw [hQ]
    exact pn_retz hx hb hr hlocks hP hS rfl rfl dX5_isDigit_17
  · have hf := pn_ifn c1 hf
    refine lv_iload_n hx hb dX5_isDigit_6 rfl (lv_at hl 0 rfl) ?_
    refine lv_bipush (v := (57)) hx hb dX5_isDigit_7 (by decide) ?_
    refine lv_icmp_gt (tgt := 16) hx hb dX5_isDigit_9 (by decide) (fun c2 => ?_) (fun c2 => ?_)
    · have hf := pn_ifp c2 hf
      refine lv_iconst (v := (0)) hx hb dX5_isDigit_16 (by decide) ?_
      cases hf
      rw [hQ]
      exact pn_retz hx hb hr hlocks hP hS rfl rfl dX5_isDigit_17
    · have hf := pn_ifn c2 hf
      refine lv_iconst (v := (1)) hx hb dX5_isDigit_12 (by decide) ?_
      refine lv_goto (tgt := 17) hx hb dX5_isDigit_13 (by decide) ?_
      cases hf
      rw [hQ]
      exact pn_retz hx hb hr hlocks hP hS rfl rfl dX5_isDigit_17
def j_X5_readPage_52 (v_t_length : Int32) (r_t_signs : Nat → Int32) (x1 : Int32) (v_t_place : Int32) (v_t_sign : Int32) : Option (Int32 × Int32 × Int32) :=
  pn_nm ((x1 + v_t_sign) - (48 : Int32)) fun z1 =>
  pn_bd2 (f_X5_advance v_t_length v_t_place v_t_sign r_t_signs) fun v_t_place_u2 v_t_sign_u2 =>
  some (z1, v_t_place_u2, v_t_sign_u2)
def f_X5_readPage (v_t_length : Int32) (v_t_place : Int32) (v_t_sign : Int32) (r_t_signs : Nat → Int32) : Option (Int32 × Int32 × Int32) :=
  pn_bd1 (f_X5_isDigit v_t_sign) fun ru3 =>
  if ¬ ru3 = 0 then
  pn_nm ((10 : Int32) * (v_t_sign - (48 : Int32))) fun z5 =>
  pn_bd2 (f_X5_advance v_t_length v_t_place v_t_sign r_t_signs) fun v_t_place_u6 v_t_sign_u6 =>
  pn_bd1 (f_X5_isDigit v_t_sign_u6) fun ru7 =>
  if ru7 = 0 then
  some ((-1 : Int32), v_t_place_u6, v_t_sign_u6)
  else
  if ¬ z5 = 0 then
  j_X5_readPage_52 v_t_length r_t_signs z5 v_t_place_u6 v_t_sign_u6
  else
  if ¬ v_t_sign_u6 = (48 : Int32) then
  j_X5_readPage_52 v_t_length r_t_signs z5 v_t_place_u6 v_t_sign_u6
  else
  some ((-1 : Int32), v_t_place_u6, v_t_sign_u6)
  else
  some ((-1 : Int32), v_t_place, v_t_sign)
set_option maxHeartbeats 4000000 in
set_option maxRecDepth 100000 in
theorem c_X5_readPage (l : Launch) (D : va_G) (cI cJ cZ : ClassId) (a_t a_t_signs : Nat) (sz : Nat) (v_t_length : Int32) (v_t_place : Int32) (v_t_sign : Int32) (r_t_signs : Nat → Int32) (rR : Int32) (o_t_place : Int32) (o_t_sign : Int32) (hf : f_X5_readPage v_t_length v_t_place v_t_sign r_t_signs = some (rR, o_t_place, o_t_sign)) : Met l yX5_readPage wsX5_readPage { frames := 1, cells := 0, slots := 0, locals := 20 } (pn_Pc D cI cJ cZ [.ref a_t] [(a_t, .inr (4, [.ref a_t_signs, .int v_t_length, .int v_t_place, .int v_t_sign])), (a_t_signs, .inl (cI, 120, .inl r_t_signs))] sz) (pn_Qi D rR [(a_t, .inr (4, [.ref a_t_signs, .int v_t_length, .int o_t_place, .int o_t_sign])), (a_t_signs, .inl (cI, 120, .inl r_t_signs))] (va_A [(a_t, .inr (4, [.ref a_t_signs, .int v_t_length, .int v_t_place, .int v_t_sign])), (a_t_signs, .inl (cI, 120, .inl r_t_signs))] sz)) 0 0 (va_A [(a_t, .inr (4, [.ref a_t_signs, .int v_t_length, .int v_t_place, .int v_t_sign])), (a_t_signs, .inl (cI, 120, .inl r_t_signs))] sz) := by
  refine pn_entry (cc := cX5_readPage) (maxL := 3) (ret := (some .int)) (Qf := pn_Qi D rR [(a_t, .inr (4, [.ref a_t_signs, .int v_t_length, .int o_t_place, .int o_t_sign])), (a_t_signs, .inl (cI, 120, .inl r_t_signs))]) (by decide) rfl (Nat.le_of_ble_eq_true rfl) ?_
  intro p e s m args below meth c A ls H locs Qm hQ hx hb hr hlocks hml hown hts hK hP hD hA hS hl
  have hl : lv_has ls 3 [(0, .ref a_t)] := hl
  have hinX5 : ∀ w ∈ wsX50, w ∈ wsX5_readPage := by decide +kernel
  have fl_43 := hts (.fieldLink RX5 43 "PointingNotes$Text" "sign" "I") (by decide +kernel)
  rw [f_X5_readPage] at hf
  have jn52 : ∀ (x1 : Int32) (v_t_place : Int32) (v_t_sign : Int32) (H : Heap) (locs : List Loc) (ls : Array Slot), j_X5_readPage_52 v_t_length r_t_signs x1 v_t_place v_t_sign = some (rR, o_t_place, o_t_sign) → va_P D vwCl [(a_t, .inr (4, [.ref a_t_signs, .int v_t_length, .int v_t_place, .int v_t_sign])), (a_t_signs, .inl (cI, 120, .inl r_t_signs))] H → va_S A s.heap H locs → lv_has ls 3 [(0, .ref a_t), (1, .int x1)] → W p l e { frames := 1, cells := 0, slots := 0, locals := 20 } s m args below meth c H locs 0 0 Qm (F0 m 52 ls []) := by
    intro x1 v_t_place v_t_sign H locs ls hf hP hS hl
    rw [j_X5_readPage_52] at hf
    refine lv_iload_n hx hb dX5_readPage_52 rfl (lv_at hl 1 rfl) ?_
    refine lv_aload_n hx hb dX5_readPage_53 rfl (lv_at hl 0 rfl) ?_
    refine va_get (D := D) (ci := 4) (v := .int v_t_sign) (C := RX5) (T := TX5) (N := 4) hx hb hts hinX5 hown hK.1 hP 0 rfl rfl 3 (by decide) fl_43 (fun _ h9 => h9) rfl dX5_readPage_54 ?_
    refine lv_iadd hx hb dX5_readPage_57 ?_
    refine lv_bipush (v := (48)) hx hb dX5_readPage_58 (by decide) ?_
    refine lv_isub hx hb dX5_readPage_60 ?_
    refine lv_topi (fun z1 ez1 => ?_)
    have hf := pn_nm_at ez1 hf
    refine lv_istore_n (lv' := [(2, .int z1), (0, .ref a_t), (1, .int x1)]) hx hb dX5_readPage_61 rfl hl (by decide) rfl (fun ls hl => ?_)
    refine lv_aload_n hx hb dX5_readPage_62 rfl (lv_at hl 1 rfl) ?_
    obtain ⟨v_t_place_u2, v_t_sign_u2, hu2, hf⟩ := pn_bd2_at hf
    refine pn_callv [0, 1] (va_runV (As := []) (rest := []) ⟨hx, hb, hml, hown, hts⟩ (c_X5_advance l D cI cJ cZ a_t a_t_signs H.size v_t_length v_t_place v_t_sign r_t_signs v_t_place_u2 v_t_sign_u2 hu2) (cwV 0 hts gX5_readPage_X5_advance rfl rfl rfl hdX5_advance ⟨Nat.le_of_ble_eq_true rfl, Nat.le_of_ble_eq_true rfl⟩) (pn_preV [0, 1] hP (hD.addr rfl) hK rfl rfl (q0 := 0) (ci := 4) rfl rfl) rfl rfl hl.1 rfl (lv_room (Nat.le_of_ble_eq_true rfl)) dX5_readPage_63 ⟨Nat.zero_le _, Nat.zero_le _⟩) hP (hD.addr rfl) hS hA rfl rfl rfl (fun H locs (hP : va_P D vwCl [(a_t, .inr (4, [.ref a_t_signs, .int v_t_length, .int v_t_place_u2, .int v_t_sign_u2])), (a_t_signs, .inl (cI, 120, .inl r_t_signs))] H) _ hS => ?_)
    refine lv_iload_n hx hb dX5_readPage_66 rfl (lv_at hl 0 rfl) ?_
    cases hf
    rw [hQ]
    exact pn_reti hx hb hr hlocks hP hS rfl dX5_readPage_67
  refine lv_aload_n hx hb dX5_readPage_0 rfl (lv_at hl 0 rfl) ?_
  refine va_get (D := D) (ci := 4) (v := .int v_t_sign) (C := RX5) (T := TX5) (N := 4) hx hb hts hinX5 hown hK.1 hP 0 rfl rfl 3 (by decide) fl_43 (fun _ h9 => h9) rfl dX5_readPage_1 ?_
  obtain ⟨ru3, hu3, hf⟩ := pn_bd1_at hf
  refine pn_calli [] (va_runS (As := [.int v_t_sign]) (rest := []) ⟨hx, hb, hml, hown, hts⟩ (c_X5_isDigit l D cI cJ cZ H.size v_t_sign ru3 hu3) (va_cwS 1 hts gX5_readPage_X5_isDigit rfl rfl rfl hdX5_isDigit ⟨Nat.le_of_ble_eq_true rfl, Nat.le_of_ble_eq_true rfl⟩) (pn_preS [] hP (hD.addr rfl) hK rfl rfl) rfl rfl hl.1 rfl (lv_room (Nat.le_of_ble_eq_true rfl)) dX5_readPage_4 ⟨Nat.zero_le _, Nat.zero_le _⟩) hP (hD.addr rfl) hS hA rfl rfl rfl (fun H locs (hP : va_P D vwCl [(a_t, .inr (4, [.ref a_t_signs, .int v_t_length, .int v_t_place, .int v_t_sign])), (a_t_signs, .inl (cI, 120, .inl r_t_signs))] H) _ hS => ?_)
  refine lv_if_ne (tgt := 12) hx hb dX5_readPage_7 (by decide) (fun c4 => ?_) (fun c4 => ?_)
  · have hf := pn_ifp c4 hf
    refine lv_bipush (v := (10)) hx hb dX5_readPage_12 (by decide) ?_
    refine lv_aload_n hx hb dX5_readPage_14 rfl (lv_at hl 0 rfl) ?_
    refine va_get (D := D) (ci := 4) (v := .int v_t_sign) (C := RX5) (T := TX5) (N := 4) hx hb hts hinX5 hown hK.1 hP 0 rfl rfl 3 (by decide) fl_43 (fun _ h9 => h9) rfl dX5_readPage_15 ?_
    refine lv_bipush (v := (48)) hx hb dX5_readPage_18 (by decide) ?_
    refine lv_isub hx hb dX5_readPage_20 ?_
    refine lv_imul hx hb dX5_readPage_21 ?_
    refine lv_topi (fun z5 ez5 => ?_)
    have hf := pn_nm_at ez5 hf
    refine lv_istore_n (lv' := [(1, .int z5), (0, .ref a_t)]) hx hb dX5_readPage_22 rfl hl (by decide) rfl (fun ls hl => ?_)
    refine lv_aload_n hx hb dX5_readPage_23 rfl (lv_at hl 1 rfl) ?_
    obtain ⟨v_t_place_u6, v_t_sign_u6, hu6, hf⟩ := pn_bd2_at hf
    refine pn_callv [0, 1] (va_runV (As := []) (rest := []) ⟨hx, hb, hml, hown, hts⟩ (c_X5_advance l D cI cJ cZ a_t a_t_signs H.size v_t_length v_t_place v_t_sign r_t_signs v_t_place_u6 v_t_sign_u6 hu6) (cwV 0 hts gX5_readPage_X5_advance rfl rfl rfl hdX5_advance ⟨Nat.le_of_ble_eq_true rfl, Nat.le_of_ble_eq_true rfl⟩) (pn_preV [0, 1] hP (hD.addr rfl) hK rfl rfl (q0 := 0) (ci := 4) rfl rfl) rfl rfl hl.1 rfl (lv_room (Nat.le_of_ble_eq_true rfl)) dX5_readPage_24 ⟨Nat.zero_le _, Nat.zero_le _⟩) hP (hD.addr rfl) hS hA rfl rfl rfl (fun H locs (hP : va_P D vwCl [(a_t, .inr (4, [.ref a_t_signs, .int v_t_length, .int v_t_place_u6, .int v_t_sign_u6])), (a_t_signs, .inl (cI, 120, .inl r_t_signs))] H) _ hS => ?_)
    refine lv_aload_n hx hb dX5_readPage_27 rfl (lv_at hl 1 rfl) ?_
    refine va_get (D := D) (ci := 4) (v := .int v_t_sign_u6) (C := RX5) (T := TX5) (N := 4) hx hb hts hinX5 hown hK.1 hP 0 rfl rfl 3 (by decide) fl_43 (fun _ h9 => h9) rfl dX5_readPage_28 ?_
    obtain ⟨ru7, hu7, hf⟩ := pn_bd1_at hf
    refine pn_calli [] (va_runS (As := [.int v_t_sign_u6]) (rest := []) ⟨hx, hb, hml, hown, hts⟩ (c_X5_isDigit l D cI cJ cZ H.size v_t_sign_u6 ru7 hu7) (va_cwS 1 hts gX5_readPage_X5_isDigit rfl rfl rfl hdX5_isDigit ⟨Nat.le_of_ble_eq_true rfl, Nat.le_of_ble_eq_true rfl⟩) (pn_preS [] hP (hD.addr rfl) hK rfl rfl) rfl rfl hl.1 rfl (lv_room (Nat.le_of_ble_eq_true rfl)) dX5_readPage_31 ⟨Nat.zero_le _, Nat.zero_le _⟩) hP (hD.addr rfl) hS hA rfl rfl rfl (fun H locs (hP : va_P D vwCl [(a_t, .inr (4, [.ref a_t_signs, .int v_t_length, .int v_t_place_u6, .int v_t_sign_u6])), (a_t_signs, .inl (cI, 120, .inl r_t_signs))] H) _ hS => ?_)
    refine lv_if_eq (tgt := 50) hx hb dX5_readPage_34 (by decide) (fun c8 => ?_) (fun c8 => ?_)
    · have hf := pn_ifp c8 hf
      refine lv_iconst (v := (-1)) hx hb dX5_readPage_50 (by decide) ?_
      cases hf
      rw [hQ]
      exact pn_reti hx hb hr hlocks hP hS rfl dX5_readPage_51
    · have hf := pn_ifn c8 hf
      refine lv_iload_n hx hb dX5_readPage_37 rfl (lv_at hl 0 rfl) ?_
      refine lv_if_ne (tgt := 52) hx hb dX5_readPage_38 (by decide) (fun c9 => ?_) (fun c9 => ?_)
      · have hf := pn_ifp c9 hf
        exact jn52 z5 v_t_place_u6 v_t_sign_u6 H locs ls hf hP hS (lv_sub hl [1, 0] rfl)
      · have hf := pn_ifq c9 hf
        refine lv_aload_n hx hb dX5_readPage_41 rfl (lv_at hl 1 rfl) ?_
        refine va_get (D := D) (ci := 4) (v := .int v_t_sign_u6) (C := RX5) (T := TX5) (N := 4) hx hb hts hinX5 hown hK.1 hP 0 rfl rfl 3 (by decide) fl_43 (fun _ h9 => h9) rfl dX5_readPage_42 ?_
        refine lv_bipush (v := (48)) hx hb dX5_readPage_45 (by decide) ?_
        refine lv_icmp_ne (tgt := 52) hx hb dX5_readPage_47 (by decide) (fun c10 => ?_) (fun c10 => ?_)
        · have hf := pn_ifp c10 hf
          exact jn52 z5 v_t_place_u6 v_t_sign_u6 H locs ls hf hP hS (lv_sub hl [1, 0] rfl)
        · have hf := pn_ifq c10 hf
          refine lv_iconst (v := (-1)) hx hb dX5_readPage_50 (by decide) ?_
          cases hf
          rw [hQ]
          exact pn_reti hx hb hr hlocks hP hS rfl dX5_readPage_51
  · have hf := pn_ifq c4 hf
    refine lv_iconst (v := (-1)) hx hb dX5_readPage_10 (by decide) ?_
    cases hf
    rw [hQ]
    exact pn_reti hx hb hr hlocks hP hS rfl dX5_readPage_11
def f_X5_readPin (v_t_length : Int32) (v_t_place : Int32) (v_t_sign : Int32) (r_t_signs : Nat → Int32) (p1 : Int64) : Option (Int64 × Int32 × Int32) :=
  if v_t_sign = (64 : Int32) then
  pn_bd2 (f_X5_advance v_t_length v_t_place v_t_sign r_t_signs) fun v_t_place_u2 v_t_sign_u2 =>
  pn_bd3 (f_X5_readPage v_t_length v_t_place_u2 v_t_sign_u2 r_t_signs) fun ru3 v_t_place_u3 v_t_sign_u3 =>
  if 0 ≤ ru3 then
  pn_bd1 (f_X0_withPin p1 ru3) fun ru5 =>
  some (ru5, v_t_place_u3, v_t_sign_u3)
  else
  some ((-1 : Int64), v_t_place_u3, v_t_sign_u3)
  else
  some (p1, v_t_place, v_t_sign)
set_option maxHeartbeats 4000000 in
set_option maxRecDepth 100000 in
theorem c_X5_readPin (l : Launch) (D : va_G) (cI cJ cZ : ClassId) (a_t a_t_signs : Nat) (sz : Nat) (v_t_length : Int32) (v_t_place : Int32) (v_t_sign : Int32) (r_t_signs : Nat → Int32) (p1 : Int64) (rR : Int64) (o_t_place : Int32) (o_t_sign : Int32) (hf : f_X5_readPin v_t_length v_t_place v_t_sign r_t_signs p1 = some (rR, o_t_place, o_t_sign)) : Met l yX5_readPin wsX5_readPin { frames := 2, cells := 0, slots := 0, locals := 42 } (pn_Pc D cI cJ cZ [.ref a_t, .long p1] [(a_t, .inr (4, [.ref a_t_signs, .int v_t_length, .int v_t_place, .int v_t_sign])), (a_t_signs, .inl (cI, 120, .inl r_t_signs))] sz) (pn_Ql D rR [(a_t, .inr (4, [.ref a_t_signs, .int v_t_length, .int o_t_place, .int o_t_sign])), (a_t_signs, .inl (cI, 120, .inl r_t_signs))] (va_A [(a_t, .inr (4, [.ref a_t_signs, .int v_t_length, .int v_t_place, .int v_t_sign])), (a_t_signs, .inl (cI, 120, .inl r_t_signs))] sz)) 0 0 (va_A [(a_t, .inr (4, [.ref a_t_signs, .int v_t_length, .int v_t_place, .int v_t_sign])), (a_t_signs, .inl (cI, 120, .inl r_t_signs))] sz) := by
  refine pn_entry (cc := cX5_readPin) (maxL := 4) (ret := (some .long)) (Qf := pn_Ql D rR [(a_t, .inr (4, [.ref a_t_signs, .int v_t_length, .int o_t_place, .int o_t_sign])), (a_t_signs, .inl (cI, 120, .inl r_t_signs))]) (by decide) rfl (Nat.le_of_ble_eq_true rfl) ?_
  intro p e s m args below meth c A ls H locs Qm hQ hx hb hr hlocks hml hown hts hK hP hD hA hS hl
  have hl : lv_has ls 4 [(0, .ref a_t), (1, .long p1)] := hl
  have hinX5 : ∀ w ∈ wsX50, w ∈ wsX5_readPin := by decide +kernel
  have fl_43 := hts (.fieldLink RX5 43 "PointingNotes$Text" "sign" "I") (by decide +kernel)
  have kl_37 := hts (.constantLong RX5 37 (-1)) (by decide +kernel)
  rw [f_X5_readPin] at hf
  refine lv_aload_n hx hb dX5_readPin_0 rfl (lv_at hl 0 rfl) ?_
  refine va_get (D := D) (ci := 4) (v := .int v_t_sign) (C := RX5) (T := TX5) (N := 4) hx hb hts hinX5 hown hK.1 hP 0 rfl rfl 3 (by decide) fl_43 (fun _ h9 => h9) rfl dX5_readPin_1 ?_
  refine lv_bipush (v := (64)) hx hb dX5_readPin_4 (by decide) ?_
  refine lv_icmp_eq (tgt := 11) hx hb dX5_readPin_6 (by decide) (fun c1 => ?_) (fun c1 => ?_)
  · have hf := pn_ifp c1 hf
    refine lv_aload_n hx hb dX5_readPin_11 rfl (lv_at hl 0 rfl) ?_
    obtain ⟨v_t_place_u2, v_t_sign_u2, hu2, hf⟩ := pn_bd2_at hf
    refine pn_callv [0, 1] (va_runV (As := []) (rest := []) ⟨hx, hb, hml, hown, hts⟩ (c_X5_advance l D cI cJ cZ a_t a_t_signs H.size v_t_length v_t_place v_t_sign r_t_signs v_t_place_u2 v_t_sign_u2 hu2) (cwV 0 hts gX5_readPin_X5_advance rfl rfl rfl hdX5_advance ⟨Nat.le_of_ble_eq_true rfl, Nat.le_of_ble_eq_true rfl⟩) (pn_preV [0, 1] hP (hD.addr rfl) hK rfl rfl (q0 := 0) (ci := 4) rfl rfl) rfl rfl hl.1 rfl (lv_room (Nat.le_of_ble_eq_true rfl)) dX5_readPin_12 ⟨Nat.zero_le _, Nat.zero_le _⟩) hP (hD.addr rfl) hS hA rfl rfl rfl (fun H locs (hP : va_P D vwCl [(a_t, .inr (4, [.ref a_t_signs, .int v_t_length, .int v_t_place_u2, .int v_t_sign_u2])), (a_t_signs, .inl (cI, 120, .inl r_t_signs))] H) _ hS => ?_)
    refine lv_aload_n hx hb dX5_readPin_15 rfl (lv_at hl 0 rfl) ?_
    obtain ⟨ru3, v_t_place_u3, v_t_sign_u3, hu3, hf⟩ := pn_bd3_at hf
    refine pn_calli [0, 1] (va_runV (As := []) (rest := []) ⟨hx, hb, hml, hown, hts⟩ (c_X5_readPage l D cI cJ cZ a_t a_t_signs H.size v_t_length v_t_place_u2 v_t_sign_u2 r_t_signs ru3 v_t_place_u3 v_t_sign_u3 hu3) (cwV 0 hts gX5_readPin_X5_readPage rfl rfl rfl hdX5_readPage ⟨Nat.le_of_ble_eq_true rfl, Nat.le_of_ble_eq_true rfl⟩) (pn_preV [0, 1] hP (hD.addr rfl) hK rfl rfl (q0 := 0) (ci := 4) rfl rfl) rfl rfl hl.1 rfl (lv_room (Nat.le_of_ble_eq_true rfl)) dX5_readPin_16 ⟨Nat.zero_le _, Nat.zero_le _⟩) hP (hD.addr rfl) hS hA rfl rfl rfl (fun H locs (hP : va_P D vwCl [(a_t, .inr (4, [.ref a_t_signs, .int v_t_length, .int v_t_place_u3, .int v_t_sign_u3])), (a_t_signs, .inl (cI, 120, .inl r_t_signs))] H) _ hS => ?_)
    refine lv_istore_n (lv' := [(3, .int ru3), (0, .ref a_t), (1, .long p1)]) hx hb dX5_readPin_19 rfl hl (by decide) rfl (fun ls hl => ?_)
    refine lv_iload_n hx hb dX5_readPin_20 rfl (lv_at hl 0 rfl) ?_
    refine lv_if_ge (tgt := 30) hx hb dX5_readPin_21 (by decide) (fun c4 => ?_) (fun c4 => ?_)
    · have hf := pn_ifp c4 hf
      refine lv_lload_n hx hb dX5_readPin_30 rfl (lv_at hl 2 rfl) ?_
      refine lv_iload_n hx hb dX5_readPin_31 rfl (lv_at hl 0 rfl) ?_
      obtain ⟨ru5, hu5, hf⟩ := pn_bd1_at hf
      refine pn_calll [] (va_runS (As := [.long p1, .int ru3]) (rest := []) ⟨hx, hb, hml, hown, hts⟩ (c_X0_withPin l D cI cJ cZ H.size p1 ru3 ru5 hu5) (va_cwS 2 hts gX5_readPin_X0_withPin rfl rfl rfl hdX0_withPin ⟨Nat.le_of_ble_eq_true rfl, Nat.le_of_ble_eq_true rfl⟩) (pn_preS [] hP (hD.addr rfl) hK rfl rfl) rfl rfl hl.1 rfl (lv_room (Nat.le_of_ble_eq_true rfl)) dX5_readPin_32 ⟨Nat.zero_le _, Nat.zero_le _⟩) hP (hD.addr rfl) hS hA rfl rfl rfl (fun H locs (hP : va_P D vwCl [(a_t, .inr (4, [.ref a_t_signs, .int v_t_length, .int v_t_place_u3, .int v_t_sign_u3])), (a_t_signs, .inl (cI, 120, .inl r_t_signs))] H) _ hS => ?_)
      cases hf
      rw [hQ]
      exact pn_retl hx hb hr hlocks hP hS rfl dX5_readPin_35
    · have hf := pn_ifn c4 hf
      refine lv_ldc2 hx hb hown kl_37 dX5_readPin_24 ?_
      refine lv_goto (tgt := 35) hx hb dX5_readPin_27 (by decide) ?_
      cases hf
      rw [hQ]
      exact pn_retl hx hb hr hlocks hP hS rfl dX5_readPin_35
  · have hf := pn_ifn c1 hf
    refine lv_lload_n hx hb dX5_readPin_9 rfl (lv_at hl 1 rfl) ?_
    cases hf
    rw [hQ]
    exact pn_retl hx hb hr hlocks hP hS rfl dX5_readPin_10
def j_X5_readReport_67 (v_t_length : Int32) (r_t_signs : Nat → Int32) (x3 : Int32) (x4 : Int32) (v_t_place : Int32) (v_t_sign : Int32) : Option (Int32 × Int32 × Int32) :=
  pn_bd2 (f_X5_advance v_t_length v_t_place v_t_sign r_t_signs) fun v_t_place_u1 v_t_sign_u1 =>
  pn_bd3 (f_X5_readPage v_t_length v_t_place_u1 v_t_sign_u1 r_t_signs) fun ru2 v_t_place_u2 v_t_sign_u2 =>
  if 0 ≤ ru2 then
  some ((((1000 : Int32) * x3) + ((100 : Int32) * x4)) + ru2, v_t_place_u2, v_t_sign_u2)
  else
  some ((-1 : Int32), v_t_place_u2, v_t_sign_u2)
def f_X5_readReport (v_t_length : Int32) (v_t_place : Int32) (v_t_sign : Int32) (r_t_signs : Nat → Int32) (p1 : Int32) (p2 : Int32) : Option (Int32 × Int32 × Int32) :=
  pn_bd1 (f_X5_isDigit v_t_sign) fun ru4 =>
  if ru4 = 0 then
  some ((-1 : Int32), v_t_place, v_t_sign)
  else
  if ¬ v_t_sign = (48 : Int32) then
  pn_nm (v_t_sign - (48 : Int32)) fun z7 =>
  pn_bd2 (f_X5_advance v_t_length v_t_place v_t_sign r_t_signs) fun v_t_place_u8 v_t_sign_u8 =>
  if ¬ v_t_sign_u8 = (115 : Int32) then
  if v_t_sign_u8 = p1 then
  j_X5_readReport_67 v_t_length r_t_signs z7 (0 : Int32) v_t_place_u8 v_t_sign_u8
  else
  if v_t_sign_u8 = p2 then
  j_X5_readReport_67 v_t_length r_t_signs z7 (0 : Int32) v_t_place_u8 v_t_sign_u8
  else
  some ((-1 : Int32), v_t_place_u8, v_t_sign_u8)
  else
  if v_t_sign_u8 = p1 then
  j_X5_readReport_67 v_t_length r_t_signs z7 (1 : Int32) v_t_place_u8 v_t_sign_u8
  else
  if v_t_sign_u8 = p2 then
  j_X5_readReport_67 v_t_length r_t_signs z7 (1 : Int32) v_t_place_u8 v_t_sign_u8
  else
  some ((-1 : Int32), v_t_place_u8, v_t_sign_u8)
  else
  some ((-1 : Int32), v_t_place, v_t_sign)
set_option maxHeartbeats 4000000 in
set_option maxRecDepth 100000 in
theorem c_X5_readReport (l : Launch) (D : va_G) (cI cJ cZ : ClassId) (a_t a_t_signs : Nat) (sz : Nat) (v_t_length : Int32) (v_t_place : Int32) (v_t_sign : Int32) (r_t_signs : Nat → Int32) (p1 : Int32) (p2 : Int32) (rR : Int32) (o_t_place : Int32) (o_t_sign : Int32) (hf : f_X5_readReport v_t_length v_t_place v_t_sign r_t_signs p1 p2 = some (rR, o_t_place, o_t_sign)) : Met l yX5_readReport wsX5_readReport { frames := 2, cells := 0, slots := 0, locals := 42 } (pn_Pc D cI cJ cZ [.ref a_t, .int p1, .int p2] [(a_t, .inr (4, [.ref a_t_signs, .int v_t_length, .int v_t_place, .int v_t_sign])), (a_t_signs, .inl (cI, 120, .inl r_t_signs))] sz) (pn_Qi D rR [(a_t, .inr (4, [.ref a_t_signs, .int v_t_length, .int o_t_place, .int o_t_sign])), (a_t_signs, .inl (cI, 120, .inl r_t_signs))] (va_A [(a_t, .inr (4, [.ref a_t_signs, .int v_t_length, .int v_t_place, .int v_t_sign])), (a_t_signs, .inl (cI, 120, .inl r_t_signs))] sz)) 0 0 (va_A [(a_t, .inr (4, [.ref a_t_signs, .int v_t_length, .int v_t_place, .int v_t_sign])), (a_t_signs, .inl (cI, 120, .inl r_t_signs))] sz) := by
  refine pn_entry (cc := cX5_readReport) (maxL := 6) (ret := (some .int)) (Qf := pn_Qi D rR [(a_t, .inr (4, [.ref a_t_signs, .int v_t_length, .int o_t_place, .int o_t_sign])), (a_t_signs, .inl (cI, 120, .inl r_t_signs))]) (by decide) rfl (Nat.le_of_ble_eq_true rfl) ?_
  intro p e s m args below meth c A ls H locs Qm hQ hx hb hr hlocks hml hown hts hK hP hD hA hS hl
  have hl : lv_has ls 6 [(0, .ref a_t), (1, .int p1), (2, .int p2)] := hl
  have hinX5 : ∀ w ∈ wsX50, w ∈ wsX5_readReport := by decide +kernel
  have fl_43 := hts (.fieldLink RX5 43 "PointingNotes$Text" "sign" "I") (by decide +kernel)
  rw [f_X5_readReport] at hf
  have jn67 : ∀ (x3 : Int32) (x4 : Int32) (v_t_place : Int32) (v_t_sign : Int32) (H : Heap) (locs : List Loc) (ls : Array Slot), j_X5_readReport_67 v_t_length r_t_signs x3 x4 v_t_place v_t_sign = some (rR, o_t_place, o_t_sign) → va_P D vwCl [(a_t, .inr (4, [.ref a_t_signs, .int v_t_length, .int v_t_place, .int v_t_sign])), (a_t_signs, .inl (cI, 120, .inl r_t_signs))] H → va_S A s.heap H locs → lv_has ls 6 [(0, .ref a_t), (3, .int x3), (4, .int x4)] → W p l e { frames := 2, cells := 0, slots := 0, locals := 42 } s m args below meth c H locs 0 0 Qm (F0 m 67 ls []) := by
    intro x3 x4 v_t_place v_t_sign H locs ls hf hP hS hl
    rw [j_X5_readReport_67] at hf
    refine lv_aload_n hx hb dX5_readReport_67 rfl (lv_at hl 0 rfl) ?_
    obtain ⟨v_t_place_u1, v_t_sign_u1, hu1, hf⟩ := pn_bd2_at hf
    refine pn_callv [0, 1] (va_runV (As := []) (rest := []) ⟨hx, hb, hml, hown, hts⟩ (c_X5_advance l D cI cJ cZ a_t a_t_signs H.size v_t_length v_t_place v_t_sign r_t_signs v_t_place_u1 v_t_sign_u1 hu1) (cwV 0 hts gX5_readReport_X5_advance rfl rfl rfl hdX5_advance ⟨Nat.le_of_ble_eq_true rfl, Nat.le_of_ble_eq_true rfl⟩) (pn_preV [0, 1] hP (hD.addr rfl) hK rfl rfl (q0 := 0) (ci := 4) rfl rfl) rfl rfl hl.1 rfl (lv_room (Nat.le_of_ble_eq_true rfl)) dX5_readReport_68 ⟨Nat.zero_le _, Nat.zero_le _⟩) hP (hD.addr rfl) hS hA rfl rfl rfl (fun H locs (hP : va_P D vwCl [(a_t, .inr (4, [.ref a_t_signs, .int v_t_length, .int v_t_place_u1, .int v_t_sign_u1])), (a_t_signs, .inl (cI, 120, .inl r_t_signs))] H) _ hS => ?_)
    refine lv_aload_n hx hb dX5_readReport_71 rfl (lv_at hl 0 rfl) ?_
    obtain ⟨ru2, v_t_place_u2, v_t_sign_u2, hu2, hf⟩ := pn_bd3_at hf
    refine pn_calli [0, 1] (va_runV (As := []) (rest := []) ⟨hx, hb, hml, hown, hts⟩ (c_X5_readPage l D cI cJ cZ a_t a_t_signs H.size v_t_length v_t_place_u1 v_t_sign_u1 r_t_signs ru2 v_t_place_u2 v_t_sign_u2 hu2) (cwV 0 hts gX5_readReport_X5_readPage rfl rfl rfl hdX5_readPage ⟨Nat.le_of_ble_eq_true rfl, Nat.le_of_ble_eq_true rfl⟩) (pn_preV [0, 1] hP (hD.addr rfl) hK rfl rfl (q0 := 0) (ci := 4) rfl rfl) rfl rfl hl.1 rfl (lv_room (Nat.le_of_ble_eq_true rfl)) dX5_readReport_72 ⟨Nat.zero_le _, Nat.zero_le _⟩) hP (hD.addr rfl) hS hA rfl rfl rfl (fun H locs (hP : va_P D vwCl [(a_t, .inr (4, [.ref a_t_signs, .int v_t_length, .int v_t_place_u2, .int v_t_sign_u2])), (a_t_signs, .inl (cI, 120, .inl r_t_signs))] H) _ hS => ?_)
    refine lv_istore (lv' := [(5, .int ru2), (0, .ref a_t), (3, .int x3), (4, .int x4)]) hx hb dX5_readReport_75 hl (by decide) rfl (fun ls hl => ?_)
    refine lv_iload hx hb dX5_readReport_77 (lv_at hl 0 rfl) ?_
    refine lv_if_ge (tgt := 86) hx hb dX5_readReport_79 (by decide) (fun c3 => ?_) (fun c3 => ?_)
    · have hf := pn_ifp c3 hf
      refine lv_sipush (v := (1000)) hx hb dX5_readReport_86 (by decide) ?_
      refine lv_iload_n hx hb dX5_readReport_89 rfl (lv_at hl 2 rfl) ?_
      refine lv_imul hx hb dX5_readReport_90 ?_
      refine lv_bipush (v := (100)) hx hb dX5_readReport_91 (by decide) ?_
      refine lv_iload hx hb dX5_readReport_93 (lv_at hl 3 rfl) ?_
      refine lv_imul hx hb dX5_readReport_95 ?_
      refine lv_iadd hx hb dX5_readReport_96 ?_
      refine lv_iload hx hb dX5_readReport_97 (lv_at hl 0 rfl) ?_
      refine lv_iadd hx hb dX5_readReport_99 ?_
      cases hf
      rw [hQ]
      exact pn_reti hx hb hr hlocks hP hS rfl dX5_readReport_100
    · have hf := pn_ifn c3 hf
      refine lv_iconst (v := (-1)) hx hb dX5_readReport_82 (by decide) ?_
      refine lv_goto (tgt := 100) hx hb dX5_readReport_83 (by decide) ?_
      cases hf
      rw [hQ]
      exact pn_reti hx hb hr hlocks hP hS rfl dX5_readReport_100
  refine lv_aload_n hx hb dX5_readReport_0 rfl (lv_at hl 0 rfl) ?_
  refine va_get (D := D) (ci := 4) (v := .int v_t_sign) (C := RX5) (T := TX5) (N := 4) hx hb hts hinX5 hown hK.1 hP 0 rfl rfl 3 (by decide) fl_43 (fun _ h9 => h9) rfl dX5_readReport_1 ?_
  obtain ⟨ru4, hu4, hf⟩ := pn_bd1_at hf
  refine pn_calli [] (va_runS (As := [.int v_t_sign]) (rest := []) ⟨hx, hb, hml, hown, hts⟩ (c_X5_isDigit l D cI cJ cZ H.size v_t_sign ru4 hu4) (va_cwS 1 hts gX5_readReport_X5_isDigit rfl rfl rfl hdX5_isDigit ⟨Nat.le_of_ble_eq_true rfl, Nat.le_of_ble_eq_true rfl⟩) (pn_preS [] hP (hD.addr rfl) hK rfl rfl) rfl rfl hl.1 rfl (lv_room (Nat.le_of_ble_eq_true rfl)) dX5_readReport_4 ⟨Nat.zero_le _, Nat.zero_le _⟩) hP (hD.addr rfl) hS hA rfl rfl rfl (fun H locs (hP : va_P D vwCl [(a_t, .inr (4, [.ref a_t_signs, .int v_t_length, .int v_t_place, .int v_t_sign])), (a_t_signs, .inl (cI, 120, .inl r_t_signs))] H) _ hS => ?_)
  refine lv_if_eq (tgt := 19) hx hb dX5_readReport_7 (by decide) (fun c5 => ?_) (fun c5 => ?_)
  · have hf := pn_ifp c5 hf
    refine lv_iconst (v := (-1)) hx hb dX5_readReport_19 (by decide) ?_
    cases hf
    rw [hQ]
    exact pn_reti hx hb hr hlocks hP hS rfl dX5_readReport_20
  · have hf := pn_ifn c5 hf
    refine lv_aload_n hx hb dX5_readReport_10 rfl (lv_at hl 0 rfl) ?_
    refine va_get (D := D) (ci := 4) (v := .int v_t_sign) (C := RX5) (T := TX5) (N := 4) hx hb hts hinX5 hown hK.1 hP 0 rfl rfl 3 (by decide) fl_43 (fun _ h9 => h9) rfl dX5_readReport_11 ?_
    refine lv_bipush (v := (48)) hx hb dX5_readReport_14 (by decide) ?_
    refine lv_icmp_ne (tgt := 21) hx hb dX5_readReport_16 (by decide) (fun c6 => ?_) (fun c6 => ?_)
    · have hf := pn_ifp c6 hf
      refine lv_aload_n hx hb dX5_readReport_21 rfl (lv_at hl 0 rfl) ?_
      refine va_get (D := D) (ci := 4) (v := .int v_t_sign) (C := RX5) (T := TX5) (N := 4) hx hb hts hinX5 hown hK.1 hP 0 rfl rfl 3 (by decide) fl_43 (fun _ h9 => h9) rfl dX5_readReport_22 ?_
      refine lv_bipush (v := (48)) hx hb dX5_readReport_25 (by decide) ?_
      refine lv_isub hx hb dX5_readReport_27 ?_
      refine lv_topi (fun z7 ez7 => ?_)
      have hf := pn_nm_at ez7 hf
      refine lv_istore_n (lv' := [(3, .int z7), (0, .ref a_t), (1, .int p1), (2, .int p2)]) hx hb dX5_readReport_28 rfl hl (by decide) rfl (fun ls hl => ?_)
      refine lv_aload_n hx hb dX5_readReport_29 rfl (lv_at hl 1 rfl) ?_
      obtain ⟨v_t_place_u8, v_t_sign_u8, hu8, hf⟩ := pn_bd2_at hf
      refine pn_callv [0, 1] (va_runV (As := []) (rest := []) ⟨hx, hb, hml, hown, hts⟩ (c_X5_advance l D cI cJ cZ a_t a_t_signs H.size v_t_length v_t_place v_t_sign r_t_signs v_t_place_u8 v_t_sign_u8 hu8) (cwV 0 hts gX5_readReport_X5_advance rfl rfl rfl hdX5_advance ⟨Nat.le_of_ble_eq_true rfl, Nat.le_of_ble_eq_true rfl⟩) (pn_preV [0, 1] hP (hD.addr rfl) hK rfl rfl (q0 := 0) (ci := 4) rfl rfl) rfl rfl hl.1 rfl (lv_room (Nat.le_of_ble_eq_true rfl)) dX5_readReport_30 ⟨Nat.zero_le _, Nat.zero_le _⟩) hP (hD.addr rfl) hS hA rfl rfl rfl (fun H locs (hP : va_P D vwCl [(a_t, .inr (4, [.ref a_t_signs, .int v_t_length, .int v_t_place_u8, .int v_t_sign_u8])), (a_t_signs, .inl (cI, 120, .inl r_t_signs))] H) _ hS => ?_)
      refine lv_aload_n hx hb dX5_readReport_33 rfl (lv_at hl 1 rfl) ?_
      refine va_get (D := D) (ci := 4) (v := .int v_t_sign_u8) (C := RX5) (T := TX5) (N := 4) hx hb hts hinX5 hown hK.1 hP 0 rfl rfl 3 (by decide) fl_43 (fun _ h9 => h9) rfl dX5_readReport_34 ?_
      refine lv_bipush (v := (115)) hx hb dX5_readReport_37 (by decide) ?_
      refine lv_icmp_ne (tgt := 46) hx hb dX5_readReport_39 (by decide) (fun c9 => ?_) (fun c9 => ?_)
      · have hf := pn_ifp c9 hf
        refine lv_iconst (v := (0)) hx hb dX5_readReport_46 (by decide) ?_
        refine lv_istore (lv' := [(4, .int (0 : Int32)), (3, .int z7), (0, .ref a_t), (1, .int p1), (2, .int p2)]) hx hb dX5_readReport_47 hl (by decide) rfl (fun ls hl => ?_)
        refine lv_aload_n hx hb dX5_readReport_49 rfl (lv_at hl 2 rfl) ?_
        refine va_get (D := D) (ci := 4) (v := .int v_t_sign_u8) (C := RX5) (T := TX5) (N := 4) hx hb hts hinX5 hown hK.1 hP 0 rfl rfl 3 (by decide) fl_43 (fun _ h9 => h9) rfl dX5_readReport_50 ?_
        refine lv_iload_n hx hb dX5_readReport_53 rfl (lv_at hl 3 rfl) ?_
        refine lv_icmp_eq (tgt := 67) hx hb dX5_readReport_54 (by decide) (fun c10 => ?_) (fun c10 => ?_)
        · have hf := pn_ifp c10 hf
          exact jn67 z7 (0 : Int32) v_t_place_u8 v_t_sign_u8 H locs ls hf hP hS (lv_sub hl [2, 1, 0] rfl)
        · have hf := pn_ifn c10 hf
          refine lv_aload_n hx hb dX5_readReport_57 rfl (lv_at hl 2 rfl) ?_
          refine va_get (D := D) (ci := 4) (v := .int v_t_sign_u8) (C := RX5) (T := TX5) (N := 4) hx hb hts hinX5 hown hK.1 hP 0 rfl rfl 3 (by decide) fl_43 (fun _ h9 => h9) rfl dX5_readReport_58 ?_
          refine lv_iload_n hx hb dX5_readReport_61 rfl (lv_at hl 4 rfl) ?_
          refine lv_icmp_eq (tgt := 67) hx hb dX5_readReport_62 (by decide) (fun c11 => ?_) (fun c11 => ?_)
          · have hf := pn_ifp c11 hf
            exact jn67 z7 (0 : Int32) v_t_place_u8 v_t_sign_u8 H locs ls hf hP hS (lv_sub hl [2, 1, 0] rfl)
          · have hf := pn_ifn c11 hf
            refine lv_iconst (v := (-1)) hx hb dX5_readReport_65 (by decide) ?_
            cases hf
            rw [hQ]
            exact pn_reti hx hb hr hlocks hP hS rfl dX5_readReport_66
      · have hf := pn_ifq c9 hf
        refine lv_iconst (v := (1)) hx hb dX5_readReport_42 (by decide) ?_
        refine lv_goto (tgt := 47) hx hb dX5_readReport_43 (by decide) ?_
        refine lv_istore (lv' := [(4, .int (1 : Int32)), (3, .int z7), (0, .ref a_t), (1, .int p1), (2, .int p2)]) hx hb dX5_readReport_47 hl (by decide) rfl (fun ls hl => ?_)
        refine lv_aload_n hx hb dX5_readReport_49 rfl (lv_at hl 2 rfl) ?_
        refine va_get (D := D) (ci := 4) (v := .int v_t_sign_u8) (C := RX5) (T := TX5) (N := 4) hx hb hts hinX5 hown hK.1 hP 0 rfl rfl 3 (by decide) fl_43 (fun _ h9 => h9) rfl dX5_readReport_50 ?_
        refine lv_iload_n hx hb dX5_readReport_53 rfl (lv_at hl 3 rfl) ?_
        refine lv_icmp_eq (tgt := 67) hx hb dX5_readReport_54 (by decide) (fun c12 => ?_) (fun c12 => ?_)
        · have hf := pn_ifp c12 hf
          exact jn67 z7 (1 : Int32) v_t_place_u8 v_t_sign_u8 H locs ls hf hP hS (lv_sub hl [2, 1, 0] rfl)
        · have hf := pn_ifn c12 hf
          refine lv_aload_n hx hb dX5_readReport_57 rfl (lv_at hl 2 rfl) ?_
          refine va_get (D := D) (ci := 4) (v := .int v_t_sign_u8) (C := RX5) (T := TX5) (N := 4) hx hb hts hinX5 hown hK.1 hP 0 rfl rfl 3 (by decide) fl_43 (fun _ h9 => h9) rfl dX5_readReport_58 ?_
          refine lv_iload_n hx hb dX5_readReport_61 rfl (lv_at hl 4 rfl) ?_
          refine lv_icmp_eq (tgt := 67) hx hb dX5_readReport_62 (by decide) (fun c13 => ?_) (fun c13 => ?_)
          · have hf := pn_ifp c13 hf
            exact jn67 z7 (1 : Int32) v_t_place_u8 v_t_sign_u8 H locs ls hf hP hS (lv_sub hl [2, 1, 0] rfl)
          · have hf := pn_ifn c13 hf
            refine lv_iconst (v := (-1)) hx hb dX5_readReport_65 (by decide) ?_
            cases hf
            rw [hQ]
            exact pn_reti hx hb hr hlocks hP hS rfl dX5_readReport_66
    · have hf := pn_ifq c6 hf
      refine lv_iconst (v := (-1)) hx hb dX5_readReport_19 (by decide) ?_
      cases hf
      rw [hQ]
      exact pn_reti hx hb hr hlocks hP hS rfl dX5_readReport_20
def j_X5_readNamed_109 (v_t_length : Int32) (r_t_signs : Nat → Int32) (x1 : Int32) (x2 : Int32) (x3 : Int32) (s0 : Int32) (v_t_place : Int32) (v_t_sign : Int32) : Option (Int64 × Int32 × Int32) :=
  pn_bd3 (f_X5_readReport v_t_length v_t_place v_t_sign r_t_signs s0 s0) fun ru1 v_t_place_u1 v_t_sign_u1 =>
  if 0 ≤ ru1 then
  pn_bd1 (f_X0_makeFull x1 x2 x3 ru1) fun ru3 =>
  pn_bd3 (f_X5_readPin v_t_length v_t_place_u1 v_t_sign_u1 r_t_signs ru3) fun ru4 v_t_place_u4 v_t_sign_u4 =>
  some (ru4, v_t_place_u4, v_t_sign_u4)
  else
  some ((-1 : Int64), v_t_place_u1, v_t_sign_u1)
def f_X5_readNamed (v_t_length : Int32) (v_t_place : Int32) (v_t_sign : Int32) (r_t_signs : Nat → Int32) : Option (Int64 × Int32 × Int32) :=
  pn_nm (v_t_sign - (65 : Int32)) fun z5 =>
  pn_bd2 (f_X5_advance v_t_length v_t_place v_t_sign r_t_signs) fun v_t_place_u6 v_t_sign_u6 =>
  pn_bd1 (f_X5_isLetter v_t_sign_u6) fun ru7 =>
  if ¬ ru7 = 0 then
  pn_nm (v_t_sign_u6 - (65 : Int32)) fun z9 =>
  if ¬ z9 = z5 then
  pn_bd2 (f_X5_advance v_t_length v_t_place_u6 v_t_sign_u6 r_t_signs) fun v_t_place_u11 v_t_sign_u11 =>
  pn_bd3 (f_X5_readReport v_t_length v_t_place_u11 v_t_sign_u11 r_t_signs (114 : Int32) (115 : Int32)) fun ru12 v_t_place_u12 v_t_sign_u12 =>
  if 0 ≤ ru12 then
  if v_t_sign_u12 = (61 : Int32) then
  pn_bd2 (f_X5_advance v_t_length v_t_place_u12 v_t_sign_u12 r_t_signs) fun v_t_place_u15 v_t_sign_u15 =>
  pn_bd1 (f_X6_isOfSeries ru12 (0 : Int32)) fun ru16 =>
  if ru16 = 0 then
  j_X5_readNamed_109 v_t_length r_t_signs z5 z9 ru12 (114 : Int32) v_t_place_u15 v_t_sign_u15
  else
  j_X5_readNamed_109 v_t_length r_t_signs z5 z9 ru12 (115 : Int32) v_t_place_u15 v_t_sign_u15
  else
  pn_bd1 (f_X0_makeFull z5 z9 ru12 (0 : Int32)) fun ru18 =>
  pn_bd3 (f_X5_readPin v_t_length v_t_place_u12 v_t_sign_u12 r_t_signs ru18) fun ru19 v_t_place_u19 v_t_sign_u19 =>
  some (ru19, v_t_place_u19, v_t_sign_u19)
  else
  some ((-1 : Int64), v_t_place_u12, v_t_sign_u12)
  else
  some ((-1 : Int64), v_t_place_u6, v_t_sign_u6)
  else
  pn_bd1 (f_X0_makeShort z5) fun ru20 =>
  pn_bd3 (f_X5_readPin v_t_length v_t_place_u6 v_t_sign_u6 r_t_signs ru20) fun ru21 v_t_place_u21 v_t_sign_u21 =>
  some (ru21, v_t_place_u21, v_t_sign_u21)
set_option maxHeartbeats 4000000 in
set_option maxRecDepth 100000 in
theorem c_X5_readNamed (l : Launch) (D : va_G) (cI cJ cZ : ClassId) (a_t a_t_signs : Nat) (sz : Nat) (v_t_length : Int32) (v_t_place : Int32) (v_t_sign : Int32) (r_t_signs : Nat → Int32) (rR : Int64) (o_t_place : Int32) (o_t_sign : Int32) (hf : f_X5_readNamed v_t_length v_t_place v_t_sign r_t_signs = some (rR, o_t_place, o_t_sign)) : Met l yX5_readNamed wsX5_readNamed { frames := 3, cells := 0, slots := 0, locals := 67 } (pn_Pc D cI cJ cZ [.ref a_t] [(a_t, .inr (4, [.ref a_t_signs, .int v_t_length, .int v_t_place, .int v_t_sign])), (a_t_signs, .inl (cI, 120, .inl r_t_signs))] sz) (pn_Ql D rR [(a_t, .inr (4, [.ref a_t_signs, .int v_t_length, .int o_t_place, .int o_t_sign])), (a_t_signs, .inl (cI, 120, .inl r_t_signs))] (va_A [(a_t, .inr (4, [.ref a_t_signs, .int v_t_length, .int v_t_place, .int v_t_sign])), (a_t_signs, .inl (cI, 120, .inl r_t_signs))] sz)) 0 0 (va_A [(a_t, .inr (4, [.ref a_t_signs, .int v_t_length, .int v_t_place, .int v_t_sign])), (a_t_signs, .inl (cI, 120, .inl r_t_signs))] sz) := by
  refine pn_entry (cc := cX5_readNamed) (maxL := 6) (ret := (some .long)) (Qf := pn_Ql D rR [(a_t, .inr (4, [.ref a_t_signs, .int v_t_length, .int o_t_place, .int o_t_sign])), (a_t_signs, .inl (cI, 120, .inl r_t_signs))]) (by decide) rfl (Nat.le_of_ble_eq_true rfl) ?_
  intro p e s m args below meth c A ls H locs Qm hQ hx hb hr hlocks hml hown hts hK hP hD hA hS hl
  have hl : lv_has ls 6 [(0, .ref a_t)] := hl
  have hinX5 : ∀ w ∈ wsX50, w ∈ wsX5_readNamed := by decide +kernel
  have fl_43 := hts (.fieldLink RX5 43 "PointingNotes$Text" "sign" "I") (by decide +kernel)
  have kl_37 := hts (.constantLong RX5 37 (-1)) (by decide +kernel)
  have ini_X6_isOfSeries := hts (.initialized RX6) (by decide +kernel)
  have st_X6_isOfSeries := hts (.static yX6_isOfSeries) (by decide +kernel)
  rw [f_X5_readNamed] at hf
  have jn109 : ∀ (x1 : Int32) (x2 : Int32) (x3 : Int32) (s0 : Int32) (v_t_place : Int32) (v_t_sign : Int32) (H : Heap) (locs : List Loc) (ls : Array Slot), j_X5_readNamed_109 v_t_length r_t_signs x1 x2 x3 s0 v_t_place v_t_sign = some (rR, o_t_place, o_t_sign) → va_P D vwCl [(a_t, .inr (4, [.ref a_t_signs, .int v_t_length, .int v_t_place, .int v_t_sign])), (a_t_signs, .inl (cI, 120, .inl r_t_signs))] H → va_S A s.heap H locs → lv_has ls 6 [(0, .ref a_t), (1, .int x1), (2, .int x2), (3, .int x3)] → W p l e { frames := 3, cells := 0, slots := 0, locals := 67 } s m args below meth c H locs 0 0 Qm (F0 m 109 ls [.int s0]) := by
    intro x1 x2 x3 s0 v_t_place v_t_sign H locs ls hf hP hS hl
    rw [j_X5_readNamed_109] at hf
    refine lv_istore (lv' := [(4, .int s0), (0, .ref a_t), (1, .int x1), (2, .int x2), (3, .int x3)]) hx hb dX5_readNamed_109 hl (by decide) rfl (fun ls hl => ?_)
    refine lv_aload_n hx hb dX5_readNamed_111 rfl (lv_at hl 1 rfl) ?_
    refine lv_iload hx hb dX5_readNamed_112 (lv_at hl 0 rfl) ?_
    refine lv_iload hx hb dX5_readNamed_114 (lv_at hl 0 rfl) ?_
    obtain ⟨ru1, v_t_place_u1, v_t_sign_u1, hu1, hf⟩ := pn_bd3_at hf
    refine pn_calli [0, 1] (va_runV (As := [.int s0, .int s0]) (rest := []) ⟨hx, hb, hml, hown, hts⟩ (c_X5_readReport l D cI cJ cZ a_t a_t_signs H.size v_t_length v_t_place v_t_sign r_t_signs s0 s0 ru1 v_t_place_u1 v_t_sign_u1 hu1) (cwV 2 hts gX5_readNamed_X5_readReport rfl rfl rfl hdX5_readReport ⟨Nat.le_of_ble_eq_true rfl, Nat.le_of_ble_eq_true rfl⟩) (pn_preV [0, 1] hP (hD.addr rfl) hK rfl rfl (q0 := 0) (ci := 4) rfl rfl) rfl rfl hl.1 rfl (lv_room (Nat.le_of_ble_eq_true rfl)) dX5_readNamed_116 ⟨Nat.zero_le _, Nat.zero_le _⟩) hP (hD.addr rfl) hS hA rfl rfl rfl (fun H locs (hP : va_P D vwCl [(a_t, .inr (4, [.ref a_t_signs, .int v_t_length, .int v_t_place_u1, .int v_t_sign_u1])), (a_t_signs, .inl (cI, 120, .inl r_t_signs))] H) _ hS => ?_)
    refine lv_istore (lv' := [(5, .int ru1), (4, .int s0), (0, .ref a_t), (1, .int x1), (2, .int x2), (3, .int x3)]) hx hb dX5_readNamed_119 hl (by decide) rfl (fun ls hl => ?_)
    refine lv_iload hx hb dX5_readNamed_121 (lv_at hl 0 rfl) ?_
    refine lv_if_ge (tgt := 130) hx hb dX5_readNamed_123 (by decide) (fun c2 => ?_) (fun c2 => ?_)
    · have hf := pn_ifp c2 hf
      refine lv_aload_n hx hb dX5_readNamed_130 rfl (lv_at hl 2 rfl) ?_
      refine lv_iload_n hx hb dX5_readNamed_131 rfl (lv_at hl 3 rfl) ?_
      refine lv_iload_n hx hb dX5_readNamed_132 rfl (lv_at hl 4 rfl) ?_
      refine lv_iload_n hx hb dX5_readNamed_133 rfl (lv_at hl 5 rfl) ?_
      refine lv_iload hx hb dX5_readNamed_134 (lv_at hl 0 rfl) ?_
      obtain ⟨ru3, hu3, hf⟩ := pn_bd1_at hf
      refine pn_calll [] (va_runS (As := [.int x1, .int x2, .int x3, .int ru1]) (rest := [.ref a_t]) ⟨hx, hb, hml, hown, hts⟩ (c_X0_makeFull l D cI cJ cZ H.size x1 x2 x3 ru1 ru3 hu3) (va_cwS 4 hts gX5_readNamed_X0_makeFull rfl rfl rfl hdX0_makeFull ⟨Nat.le_of_ble_eq_true rfl, Nat.le_of_ble_eq_true rfl⟩) (pn_preS [] hP (hD.addr rfl) hK rfl rfl) rfl rfl hl.1 rfl (lv_room (Nat.le_of_ble_eq_true rfl)) dX5_readNamed_136 ⟨Nat.zero_le _, Nat.zero_le _⟩) hP (hD.addr rfl) hS hA rfl rfl rfl (fun H locs (hP : va_P D vwCl [(a_t, .inr (4, [.ref a_t_signs, .int v_t_length, .int v_t_place_u1, .int v_t_sign_u1])), (a_t_signs, .inl (cI, 120, .inl r_t_signs))] H) _ hS => ?_)
      obtain ⟨ru4, v_t_place_u4, v_t_sign_u4, hu4, hf⟩ := pn_bd3_at hf
      refine pn_calll [0, 1] (va_runV (As := [.long ru3]) (rest := []) ⟨hx, hb, hml, hown, hts⟩ (c_X5_readPin l D cI cJ cZ a_t a_t_signs H.size v_t_length v_t_place_u1 v_t_sign_u1 r_t_signs ru3 ru4 v_t_place_u4 v_t_sign_u4 hu4) (cwV 1 hts gX5_readNamed_X5_readPin rfl rfl rfl hdX5_readPin ⟨Nat.le_of_ble_eq_true rfl, Nat.le_of_ble_eq_true rfl⟩) (pn_preV [0, 1] hP (hD.addr rfl) hK rfl rfl (q0 := 0) (ci := 4) rfl rfl) rfl rfl hl.1 rfl (lv_room (Nat.le_of_ble_eq_true rfl)) dX5_readNamed_139 ⟨Nat.zero_le _, Nat.zero_le _⟩) hP (hD.addr rfl) hS hA rfl rfl rfl (fun H locs (hP : va_P D vwCl [(a_t, .inr (4, [.ref a_t_signs, .int v_t_length, .int v_t_place_u4, .int v_t_sign_u4])), (a_t_signs, .inl (cI, 120, .inl r_t_signs))] H) _ hS => ?_)
      cases hf
      rw [hQ]
      exact pn_retl hx hb hr hlocks hP hS rfl dX5_readNamed_142
    · have hf := pn_ifn c2 hf
      refine lv_ldc2 hx hb hown kl_37 dX5_readNamed_126 ?_
      cases hf
      rw [hQ]
      exact pn_retl hx hb hr hlocks hP hS rfl dX5_readNamed_129
  refine lv_aload_n hx hb dX5_readNamed_0 rfl (lv_at hl 0 rfl) ?_
  refine va_get (D := D) (ci := 4) (v := .int v_t_sign) (C := RX5) (T := TX5) (N := 4) hx hb hts hinX5 hown hK.1 hP 0 rfl rfl 3 (by decide) fl_43 (fun _ h9 => h9) rfl dX5_readNamed_1 ?_
  refine lv_bipush (v := (65)) hx hb dX5_readNamed_4 (by decide) ?_
  refine lv_isub hx hb dX5_readNamed_6 ?_
  refine lv_topi (fun z5 ez5 => ?_)
  have hf := pn_nm_at ez5 hf
  refine lv_istore_n (lv' := [(1, .int z5), (0, .ref a_t)]) hx hb dX5_readNamed_7 rfl hl (by decide) rfl (fun ls hl => ?_)
  refine lv_aload_n hx hb dX5_readNamed_8 rfl (lv_at hl 1 rfl) ?_
  obtain ⟨v_t_place_u6, v_t_sign_u6, hu6, hf⟩ := pn_bd2_at hf
  refine pn_callv [0, 1] (va_runV (As := []) (rest := []) ⟨hx, hb, hml, hown, hts⟩ (c_X5_advance l D cI cJ cZ a_t a_t_signs H.size v_t_length v_t_place v_t_sign r_t_signs v_t_place_u6 v_t_sign_u6 hu6) (cwV 0 hts gX5_readNamed_X5_advance rfl rfl rfl hdX5_advance ⟨Nat.le_of_ble_eq_true rfl, Nat.le_of_ble_eq_true rfl⟩) (pn_preV [0, 1] hP (hD.addr rfl) hK rfl rfl (q0 := 0) (ci := 4) rfl rfl) rfl rfl hl.1 rfl (lv_room (Nat.le_of_ble_eq_true rfl)) dX5_readNamed_9 ⟨Nat.zero_le _, Nat.zero_le _⟩) hP (hD.addr rfl) hS hA rfl rfl rfl (fun H locs (hP : va_P D vwCl [(a_t, .inr (4, [.ref a_t_signs, .int v_t_length, .int v_t_place_u6, .int v_t_sign_u6])), (a_t_signs, .inl (cI, 120, .inl r_t_signs))] H) _ hS => ?_)
  refine lv_aload_n hx hb dX5_readNamed_12 rfl (lv_at hl 1 rfl) ?_
  refine va_get (D := D) (ci := 4) (v := .int v_t_sign_u6) (C := RX5) (T := TX5) (N := 4) hx hb hts hinX5 hown hK.1 hP 0 rfl rfl 3 (by decide) fl_43 (fun _ h9 => h9) rfl dX5_readNamed_13 ?_
  obtain ⟨ru7, hu7, hf⟩ := pn_bd1_at hf
  refine pn_calli [] (va_runS (As := [.int v_t_sign_u6]) (rest := []) ⟨hx, hb, hml, hown, hts⟩ (c_X5_isLetter l D cI cJ cZ H.size v_t_sign_u6 ru7 hu7) (va_cwS 1 hts gX5_readNamed_X5_isLetter rfl rfl rfl hdX5_isLetter ⟨Nat.le_of_ble_eq_true rfl, Nat.le_of_ble_eq_true rfl⟩) (pn_preS [] hP (hD.addr rfl) hK rfl rfl) rfl rfl hl.1 rfl (lv_room (Nat.le_of_ble_eq_true rfl)) dX5_readNamed_16 ⟨Nat.zero_le _, Nat.zero_le _⟩) hP (hD.addr rfl) hS hA rfl rfl rfl (fun H locs (hP : va_P D vwCl [(a_t, .inr (4, [.ref a_t_signs, .int v_t_length, .int v_t_place_u6, .int v_t_sign_u6])), (a_t_signs, .inl (cI, 120, .inl r_t_signs))] H) _ hS => ?_)
  refine lv_if_ne (tgt := 31) hx hb dX5_readNamed_19 (by decide) (fun c8 => ?_) (fun c8 => ?_)
  · have hf := pn_ifp c8 hf
    refine lv_aload_n hx hb dX5_readNamed_31 rfl (lv_at hl 1 rfl) ?_
    refine va_get (D := D) (ci := 4) (v := .int v_t_sign_u6) (C := RX5) (T := TX5) (N := 4) hx hb hts hinX5 hown hK.1 hP 0 rfl rfl 3 (by decide) fl_43 (fun _ h9 => h9) rfl dX5_readNamed_32 ?_
    refine lv_bipush (v := (65)) hx hb dX5_readNamed_35 (by decide) ?_
    refine lv_isub hx hb dX5_readNamed_37 ?_
    refine lv_topi (fun z9 ez9 => ?_)
    have hf := pn_nm_at ez9 hf
    refine lv_istore_n (lv' := [(2, .int z9), (1, .int z5), (0, .ref a_t)]) hx hb dX5_readNamed_38 rfl hl (by decide) rfl (fun ls hl => ?_)
    refine lv_iload_n hx hb dX5_readNamed_39 rfl (lv_at hl 0 rfl) ?_
    refine lv_iload_n hx hb dX5_readNamed_40 rfl (lv_at hl 1 rfl) ?_
    refine lv_icmp_ne (tgt := 48) hx hb dX5_readNamed_41 (by decide) (fun c10 => ?_) (fun c10 => ?_)
    · have hf := pn_ifp c10 hf
      refine lv_aload_n hx hb dX5_readNamed_48 rfl (lv_at hl 2 rfl) ?_
      obtain ⟨v_t_place_u11, v_t_sign_u11, hu11, hf⟩ := pn_bd2_at hf
      refine pn_callv [0, 1] (va_runV (As := []) (rest := []) ⟨hx, hb, hml, hown, hts⟩ (c_X5_advance l D cI cJ cZ a_t a_t_signs H.size v_t_length v_t_place_u6 v_t_sign_u6 r_t_signs v_t_place_u11 v_t_sign_u11 hu11) (cwV 0 hts gX5_readNamed_X5_advance rfl rfl rfl hdX5_advance ⟨Nat.le_of_ble_eq_true rfl, Nat.le_of_ble_eq_true rfl⟩) (pn_preV [0, 1] hP (hD.addr rfl) hK rfl rfl (q0 := 0) (ci := 4) rfl rfl) rfl rfl hl.1 rfl (lv_room (Nat.le_of_ble_eq_true rfl)) dX5_readNamed_49 ⟨Nat.zero_le _, Nat.zero_le _⟩) hP (hD.addr rfl) hS hA rfl rfl rfl (fun H locs (hP : va_P D vwCl [(a_t, .inr (4, [.ref a_t_signs, .int v_t_length, .int v_t_place_u11, .int v_t_sign_u11])), (a_t_signs, .inl (cI, 120, .inl r_t_signs))] H) _ hS => ?_)
      refine lv_aload_n hx hb dX5_readNamed_52 rfl (lv_at hl 2 rfl) ?_
      refine lv_bipush (v := (114)) hx hb dX5_readNamed_53 (by decide) ?_
      refine lv_bipush (v := (115)) hx hb dX5_readNamed_55 (by decide) ?_
      obtain ⟨ru12, v_t_place_u12, v_t_sign_u12, hu12, hf⟩ := pn_bd3_at hf
      refine pn_calli [0, 1] (va_runV (As := [.int (114 : Int32), .int (115 : Int32)]) (rest := []) ⟨hx, hb, hml, hown, hts⟩ (c_X5_readReport l D cI cJ cZ a_t a_t_signs H.size v_t_length v_t_place_u11 v_t_sign_u11 r_t_signs (114 : Int32) (115 : Int32) ru12 v_t_place_u12 v_t_sign_u12 hu12) (cwV 2 hts gX5_readNamed_X5_readReport rfl rfl rfl hdX5_readReport ⟨Nat.le_of_ble_eq_true rfl, Nat.le_of_ble_eq_true rfl⟩) (pn_preV [0, 1] hP (hD.addr rfl) hK rfl rfl (q0 := 0) (ci := 4) rfl rfl) rfl rfl hl.1 rfl (lv_room (Nat.le_of_ble_eq_true rfl)) dX5_readNamed_57 ⟨Nat.zero_le _, Nat.zero_le _⟩) hP (hD.addr rfl) hS hA rfl rfl rfl (fun H locs (hP : va_P D vwCl [(a_t, .inr (4, [.ref a_t_signs, .int v_t_length, .int v_t_place_u12, .int v_t_sign_u12])), (a_t_signs, .inl (cI, 120, .inl r_t_signs))] H) _ hS => ?_)
      refine lv_istore_n (lv' := [(3, .int ru12), (2, .int z9), (1, .int z5), (0, .ref a_t)]) hx hb dX5_readNamed_60 rfl hl (by decide) rfl (fun ls hl => ?_)
      refine lv_iload_n hx hb dX5_readNamed_61 rfl (lv_at hl 0 rfl) ?_
      refine lv_if_ge (tgt := 69) hx hb dX5_readNamed_62 (by decide) (fun c13 => ?_) (fun c13 => ?_)
      · have hf := pn_ifp c13 hf
        refine lv_aload_n hx hb dX5_readNamed_69 rfl (lv_at hl 3 rfl) ?_
        refine va_get (D := D) (ci := 4) (v := .int v_t_sign_u12) (C := RX5) (T := TX5) (N := 4) hx hb hts hinX5 hown hK.1 hP 0 rfl rfl 3 (by decide) fl_43 (fun _ h9 => h9) rfl dX5_readNamed_70 ?_
        refine lv_bipush (v := (61)) hx hb dX5_readNamed_73 (by decide) ?_
        refine lv_icmp_eq (tgt := 90) hx hb dX5_readNamed_75 (by decide) (fun c14 => ?_) (fun c14 => ?_)
        · have hf := pn_ifp c14 hf
          refine lv_aload_n hx hb dX5_readNamed_90 rfl (lv_at hl 3 rfl) ?_
          obtain ⟨v_t_place_u15, v_t_sign_u15, hu15, hf⟩ := pn_bd2_at hf
          refine pn_callv [0, 1] (va_runV (As := []) (rest := []) ⟨hx, hb, hml, hown, hts⟩ (c_X5_advance l D cI cJ cZ a_t a_t_signs H.size v_t_length v_t_place_u12 v_t_sign_u12 r_t_signs v_t_place_u15 v_t_sign_u15 hu15) (cwV 0 hts gX5_readNamed_X5_advance rfl rfl rfl hdX5_advance ⟨Nat.le_of_ble_eq_true rfl, Nat.le_of_ble_eq_true rfl⟩) (pn_preV [0, 1] hP (hD.addr rfl) hK rfl rfl (q0 := 0) (ci := 4) rfl rfl) rfl rfl hl.1 rfl (lv_room (Nat.le_of_ble_eq_true rfl)) dX5_readNamed_91 ⟨Nat.zero_le _, Nat.zero_le _⟩) hP (hD.addr rfl) hS hA rfl rfl rfl (fun H locs (hP : va_P D vwCl [(a_t, .inr (4, [.ref a_t_signs, .int v_t_length, .int v_t_place_u15, .int v_t_sign_u15])), (a_t_signs, .inl (cI, 120, .inl r_t_signs))] H) _ hS => ?_)
          refine lv_iload_n hx hb dX5_readNamed_94 rfl (lv_at hl 0 rfl) ?_
          refine lv_iconst (v := (0)) hx hb dX5_readNamed_95 (by decide) ?_
          obtain ⟨ru16, hu16, hf⟩ := pn_bd1_at hf
          refine pn_calli [] (va_runSN (As := [.int ru12, .int (0 : Int32)]) (rest := []) ⟨hx, hb, hml, hown, hts⟩ (c_X6_isOfSeries l D cI cJ cZ H.size ru12 (0 : Int32) ru16 hu16) ⟨va_cnB 2 hts gX5_readNamed_X6_isOfSeries_n85 rfl rfl rfl hK.2.2.1 ini_X6_isOfSeries hdX6_isOfSeries ⟨Nat.le_of_ble_eq_true rfl, Nat.le_of_ble_eq_true rfl⟩, st_X6_isOfSeries, trivial⟩ (pn_preS [] hP (hD.addr rfl) hK rfl rfl) rfl rfl hl.1 rfl (lv_room (Nat.le_of_ble_eq_true rfl)) dX5_readNamed_96 ⟨Nat.zero_le _, Nat.zero_le _⟩) hP (hD.addr rfl) hS hA rfl rfl rfl (fun H locs (hP : va_P D vwCl [(a_t, .inr (4, [.ref a_t_signs, .int v_t_length, .int v_t_place_u15, .int v_t_sign_u15])), (a_t_signs, .inl (cI, 120, .inl r_t_signs))] H) _ hS => ?_)
          refine lv_if_eq (tgt := 107) hx hb dX5_readNamed_99 (by decide) (fun c17 => ?_) (fun c17 => ?_)
          · have hf := pn_ifp c17 hf
            refine lv_bipush (v := (114)) hx hb dX5_readNamed_107 (by decide) ?_
            exact jn109 z5 z9 ru12 (114 : Int32) v_t_place_u15 v_t_sign_u15 H locs ls hf hP hS (lv_sub hl [3, 2, 1, 0] rfl)
          · have hf := pn_ifn c17 hf
            refine lv_bipush (v := (115)) hx hb dX5_readNamed_102 (by decide) ?_
            refine lv_goto (tgt := 109) hx hb dX5_readNamed_104 (by decide) ?_
            exact jn109 z5 z9 ru12 (115 : Int32) v_t_place_u15 v_t_sign_u15 H locs ls hf hP hS (lv_sub hl [3, 2, 1, 0] rfl)
        · have hf := pn_ifn c14 hf
          refine lv_aload_n hx hb dX5_readNamed_78 rfl (lv_at hl 3 rfl) ?_
          refine lv_iload_n hx hb dX5_readNamed_79 rfl (lv_at hl 2 rfl) ?_
          refine lv_iload_n hx hb dX5_readNamed_80 rfl (lv_at hl 1 rfl) ?_
          refine lv_iload_n hx hb dX5_readNamed_81 rfl (lv_at hl 0 rfl) ?_
          refine lv_iconst (v := (0)) hx hb dX5_readNamed_82 (by decide) ?_
          obtain ⟨ru18, hu18, hf⟩ := pn_bd1_at hf
          refine pn_calll [] (va_runS (As := [.int z5, .int z9, .int ru12, .int (0 : Int32)]) (rest := [.ref a_t]) ⟨hx, hb, hml, hown, hts⟩ (c_X0_makeFull l D cI cJ cZ H.size z5 z9 ru12 (0 : Int32) ru18 hu18) (va_cwS 4 hts gX5_readNamed_X0_makeFull rfl rfl rfl hdX0_makeFull ⟨Nat.le_of_ble_eq_true rfl, Nat.le_of_ble_eq_true rfl⟩) (pn_preS [] hP (hD.addr rfl) hK rfl rfl) rfl rfl hl.1 rfl (lv_room (Nat.le_of_ble_eq_true rfl)) dX5_readNamed_83 ⟨Nat.zero_le _, Nat.zero_le _⟩) hP (hD.addr rfl) hS hA rfl rfl rfl (fun H locs (hP : va_P D vwCl [(a_t, .inr (4, [.ref a_t_signs, .int v_t_length, .int v_t_place_u12, .int v_t_sign_u12])), (a_t_signs, .inl (cI, 120, .inl r_t_signs))] H) _ hS => ?_)
          obtain ⟨ru19, v_t_place_u19, v_t_sign_u19, hu19, hf⟩ := pn_bd3_at hf
          refine pn_calll [0, 1] (va_runV (As := [.long ru18]) (rest := []) ⟨hx, hb, hml, hown, hts⟩ (c_X5_readPin l D cI cJ cZ a_t a_t_signs H.size v_t_length v_t_place_u12 v_t_sign_u12 r_t_signs ru18 ru19 v_t_place_u19 v_t_sign_u19 hu19) (cwV 1 hts gX5_readNamed_X5_readPin rfl rfl rfl hdX5_readPin ⟨Nat.le_of_ble_eq_true rfl, Nat.le_of_ble_eq_true rfl⟩) (pn_preV [0, 1] hP (hD.addr rfl) hK rfl rfl (q0 := 0) (ci := 4) rfl rfl) rfl rfl hl.1 rfl (lv_room (Nat.le_of_ble_eq_true rfl)) dX5_readNamed_86 ⟨Nat.zero_le _, Nat.zero_le _⟩) hP (hD.addr rfl) hS hA rfl rfl rfl (fun H locs (hP : va_P D vwCl [(a_t, .inr (4, [.ref a_t_signs, .int v_t_length, .int v_t_place_u19, .int v_t_sign_u19])), (a_t_signs, .inl (cI, 120, .inl r_t_signs))] H) _ hS => ?_)
          cases hf
          rw [hQ]
          exact pn_retl hx hb hr hlocks hP hS rfl dX5_readNamed_89
      · have hf := pn_ifn c13 hf
        refine lv_ldc2 hx hb hown kl_37 dX5_readNamed_65 ?_
        cases hf
        rw [hQ]
        exact pn_retl hx hb hr hlocks hP hS rfl dX5_readNamed_68
    · have hf := pn_ifq c10 hf
      refine lv_ldc2 hx hb hown kl_37 dX5_readNamed_44 ?_
      cases hf
      rw [hQ]
      exact pn_retl hx hb hr hlocks hP hS rfl dX5_readNamed_47
  · have hf := pn_ifq c8 hf
    refine lv_aload_n hx hb dX5_readNamed_22 rfl (lv_at hl 1 rfl) ?_
    refine lv_iload_n hx hb dX5_readNamed_23 rfl (lv_at hl 0 rfl) ?_
    obtain ⟨ru20, hu20, hf⟩ := pn_bd1_at hf
    refine pn_calll [] (va_runS (As := [.int z5]) (rest := [.ref a_t]) ⟨hx, hb, hml, hown, hts⟩ (c_X0_makeShort l D cI cJ cZ H.size z5 ru20 hu20) (va_cwS 1 hts gX5_readNamed_X0_makeShort rfl rfl rfl hdX0_makeShort ⟨Nat.le_of_ble_eq_true rfl, Nat.le_of_ble_eq_true rfl⟩) (pn_preS [] hP (hD.addr rfl) hK rfl rfl) rfl rfl hl.1 rfl (lv_room (Nat.le_of_ble_eq_true rfl)) dX5_readNamed_24 ⟨Nat.zero_le _, Nat.zero_le _⟩) hP (hD.addr rfl) hS hA rfl rfl rfl (fun H locs (hP : va_P D vwCl [(a_t, .inr (4, [.ref a_t_signs, .int v_t_length, .int v_t_place_u6, .int v_t_sign_u6])), (a_t_signs, .inl (cI, 120, .inl r_t_signs))] H) _ hS => ?_)
    obtain ⟨ru21, v_t_place_u21, v_t_sign_u21, hu21, hf⟩ := pn_bd3_at hf
    refine pn_calll [0, 1] (va_runV (As := [.long ru20]) (rest := []) ⟨hx, hb, hml, hown, hts⟩ (c_X5_readPin l D cI cJ cZ a_t a_t_signs H.size v_t_length v_t_place_u6 v_t_sign_u6 r_t_signs ru20 ru21 v_t_place_u21 v_t_sign_u21 hu21) (cwV 1 hts gX5_readNamed_X5_readPin rfl rfl rfl hdX5_readPin ⟨Nat.le_of_ble_eq_true rfl, Nat.le_of_ble_eq_true rfl⟩) (pn_preV [0, 1] hP (hD.addr rfl) hK rfl rfl (q0 := 0) (ci := 4) rfl rfl) rfl rfl hl.1 rfl (lv_room (Nat.le_of_ble_eq_true rfl)) dX5_readNamed_27 ⟨Nat.zero_le _, Nat.zero_le _⟩) hP (hD.addr rfl) hS hA rfl rfl rfl (fun H locs (hP : va_P D vwCl [(a_t, .inr (4, [.ref a_t_signs, .int v_t_length, .int v_t_place_u21, .int v_t_sign_u21])), (a_t_signs, .inl (cI, 120, .inl r_t_signs))] H) _ hS => ?_)
    cases hf
    rw [hQ]
    exact pn_retl hx hb hr hlocks hP hS rfl dX5_readNamed_30
def f_X5_readAbove (v_t_length : Int32) (v_t_place : Int32) (v_t_sign : Int32) (r_t_signs : Nat → Int32) : Option (Int64 × Int32 × Int32) :=
  pn_bd2 (f_X5_advance v_t_length v_t_place v_t_sign r_t_signs) fun v_t_place_u1 v_t_sign_u1 =>
  pn_bd1 (f_X5_isDigit v_t_sign_u1) fun ru2 =>
  if ¬ ru2 = 0 then
  pn_nm (v_t_sign_u1 - (48 : Int32)) fun z4 =>
  pn_bd2 (f_X5_advance v_t_length v_t_place_u1 v_t_sign_u1 r_t_signs) fun v_t_place_u5 v_t_sign_u5 =>
  pn_bd1 (f_X5_isLetter v_t_sign_u5) fun ru6 =>
  if ¬ ru6 = 0 then
  pn_nm (v_t_sign_u5 - (65 : Int32)) fun z8 =>
  pn_bd2 (f_X5_advance v_t_length v_t_place_u5 v_t_sign_u5 r_t_signs) fun v_t_place_u9 v_t_sign_u9 =>
  pn_bd1 (f_X0_makeAbove z4 z8) fun ru10 =>
  pn_bd3 (f_X5_readPin v_t_length v_t_place_u9 v_t_sign_u9 r_t_signs ru10) fun ru11 v_t_place_u11 v_t_sign_u11 =>
  some (ru11, v_t_place_u11, v_t_sign_u11)
  else
  some ((-1 : Int64), v_t_place_u5, v_t_sign_u5)
  else
  some ((-1 : Int64), v_t_place_u1, v_t_sign_u1)
set_option maxHeartbeats 4000000 in
set_option maxRecDepth 100000 in
theorem c_X5_readAbove (l : Launch) (D : va_G) (cI cJ cZ : ClassId) (a_t a_t_signs : Nat) (sz : Nat) (v_t_length : Int32) (v_t_place : Int32) (v_t_sign : Int32) (r_t_signs : Nat → Int32) (rR : Int64) (o_t_place : Int32) (o_t_sign : Int32) (hf : f_X5_readAbove v_t_length v_t_place v_t_sign r_t_signs = some (rR, o_t_place, o_t_sign)) : Met l yX5_readAbove wsX5_readAbove { frames := 3, cells := 0, slots := 0, locals := 65 } (pn_Pc D cI cJ cZ [.ref a_t] [(a_t, .inr (4, [.ref a_t_signs, .int v_t_length, .int v_t_place, .int v_t_sign])), (a_t_signs, .inl (cI, 120, .inl r_t_signs))] sz) (pn_Ql D rR [(a_t, .inr (4, [.ref a_t_signs, .int v_t_length, .int o_t_place, .int o_t_sign])), (a_t_signs, .inl (cI, 120, .inl r_t_signs))] (va_A [(a_t, .inr (4, [.ref a_t_signs, .int v_t_length, .int v_t_place, .int v_t_sign])), (a_t_signs, .inl (cI, 120, .inl r_t_signs))] sz)) 0 0 (va_A [(a_t, .inr (4, [.ref a_t_signs, .int v_t_length, .int v_t_place, .int v_t_sign])), (a_t_signs, .inl (cI, 120, .inl r_t_signs))] sz) := by
  refine pn_entry (cc := cX5_readAbove) (maxL := 3) (ret := (some .long)) (Qf := pn_Ql D rR [(a_t, .inr (4, [.ref a_t_signs, .int v_t_length, .int o_t_place, .int o_t_sign])), (a_t_signs, .inl (cI, 120, .inl r_t_signs))]) (by decide) rfl (Nat.le_of_ble_eq_true rfl) ?_
  intro p e s m args below meth c A ls H locs Qm hQ hx hb hr hlocks hml hown hts hK hP hD hA hS hl
  have hl : lv_has ls 3 [(0, .ref a_t)] := hl
  have hinX5 : ∀ w ∈ wsX50, w ∈ wsX5_readAbove := by decide +kernel
  have fl_43 := hts (.fieldLink RX5 43 "PointingNotes$Text" "sign" "I") (by decide +kernel)
  have kl_37 := hts (.constantLong RX5 37 (-1)) (by decide +kernel)
  rw [f_X5_readAbove] at hf
  refine lv_aload_n hx hb dX5_readAbove_0 rfl (lv_at hl 0 rfl) ?_
  obtain ⟨v_t_place_u1, v_t_sign_u1, hu1, hf⟩ := pn_bd2_at hf
  refine pn_callv [0, 1] (va_runV (As := []) (rest := []) ⟨hx, hb, hml, hown, hts⟩ (c_X5_advance l D cI cJ cZ a_t a_t_signs H.size v_t_length v_t_place v_t_sign r_t_signs v_t_place_u1 v_t_sign_u1 hu1) (cwV 0 hts gX5_readAbove_X5_advance rfl rfl rfl hdX5_advance ⟨Nat.le_of_ble_eq_true rfl, Nat.le_of_ble_eq_true rfl⟩) (pn_preV [0, 1] hP (hD.addr rfl) hK rfl rfl (q0 := 0) (ci := 4) rfl rfl) rfl rfl hl.1 rfl (lv_room (Nat.le_of_ble_eq_true rfl)) dX5_readAbove_1 ⟨Nat.zero_le _, Nat.zero_le _⟩) hP (hD.addr rfl) hS hA rfl rfl rfl (fun H locs (hP : va_P D vwCl [(a_t, .inr (4, [.ref a_t_signs, .int v_t_length, .int v_t_place_u1, .int v_t_sign_u1])), (a_t_signs, .inl (cI, 120, .inl r_t_signs))] H) _ hS => ?_)
  refine lv_aload_n hx hb dX5_readAbove_4 rfl (lv_at hl 0 rfl) ?_
  refine va_get (D := D) (ci := 4) (v := .int v_t_sign_u1) (C := RX5) (T := TX5) (N := 4) hx hb hts hinX5 hown hK.1 hP 0 rfl rfl 3 (by decide) fl_43 (fun _ h9 => h9) rfl dX5_readAbove_5 ?_
  obtain ⟨ru2, hu2, hf⟩ := pn_bd1_at hf
  refine pn_calli [] (va_runS (As := [.int v_t_sign_u1]) (rest := []) ⟨hx, hb, hml, hown, hts⟩ (c_X5_isDigit l D cI cJ cZ H.size v_t_sign_u1 ru2 hu2) (va_cwS 1 hts gX5_readAbove_X5_isDigit rfl rfl rfl hdX5_isDigit ⟨Nat.le_of_ble_eq_true rfl, Nat.le_of_ble_eq_true rfl⟩) (pn_preS [] hP (hD.addr rfl) hK rfl rfl) rfl rfl hl.1 rfl (lv_room (Nat.le_of_ble_eq_true rfl)) dX5_readAbove_8 ⟨Nat.zero_le _, Nat.zero_le _⟩) hP (hD.addr rfl) hS hA rfl rfl rfl (fun H locs (hP : va_P D vwCl [(a_t, .inr (4, [.ref a_t_signs, .int v_t_length, .int v_t_place_u1, .int v_t_sign_u1])), (a_t_signs, .inl (cI, 120, .inl r_t_signs))] H) _ hS => ?_)
  refine lv_if_ne (tgt := 18) hx hb dX5_readAbove_11 (by decide) (fun c3 => ?_) (fun c3 => ?_)
  · have hf := pn_ifp c3 hf
    refine lv_aload_n hx hb dX5_readAbove_18 rfl (lv_at hl 0 rfl) ?_
    refine va_get (D := D) (ci := 4) (v := .int v_t_sign_u1) (C := RX5) (T := TX5) (N := 4) hx hb hts hinX5 hown hK.1 hP 0 rfl rfl 3 (by decide) fl_43 (fun _ h9 => h9) rfl dX5_readAbove_19 ?_
    refine lv_bipush (v := (48)) hx hb dX5_readAbove_22 (by decide) ?_
    refine lv_isub hx hb dX5_readAbove_24 ?_
    refine lv_topi (fun z4 ez4 => ?_)
    have hf := pn_nm_at ez4 hf
    refine lv_istore_n (lv' := [(1, .int z4), (0, .ref a_t)]) hx hb dX5_readAbove_25 rfl hl (by decide) rfl (fun ls hl => ?_)
    refine lv_aload_n hx hb dX5_readAbove_26 rfl (lv_at hl 1 rfl) ?_
    obtain ⟨v_t_place_u5, v_t_sign_u5, hu5, hf⟩ := pn_bd2_at hf
    refine pn_callv [0, 1] (va_runV (As := []) (rest := []) ⟨hx, hb, hml, hown, hts⟩ (c_X5_advance l D cI cJ cZ a_t a_t_signs H.size v_t_length v_t_place_u1 v_t_sign_u1 r_t_signs v_t_place_u5 v_t_sign_u5 hu5) (cwV 0 hts gX5_readAbove_X5_advance rfl rfl rfl hdX5_advance ⟨Nat.le_of_ble_eq_true rfl, Nat.le_of_ble_eq_true rfl⟩) (pn_preV [0, 1] hP (hD.addr rfl) hK rfl rfl (q0 := 0) (ci := 4) rfl rfl) rfl rfl hl.1 rfl (lv_room (Nat.le_of_ble_eq_true rfl)) dX5_readAbove_27 ⟨Nat.zero_le _, Nat.zero_le _⟩) hP (hD.addr rfl) hS hA rfl rfl rfl (fun H locs (hP : va_P D vwCl [(a_t, .inr (4, [.ref a_t_signs, .int v_t_length, .int v_t_place_u5, .int v_t_sign_u5])), (a_t_signs, .inl (cI, 120, .inl r_t_signs))] H) _ hS => ?_)
    refine lv_aload_n hx hb dX5_readAbove_30 rfl (lv_at hl 1 rfl) ?_
    refine va_get (D := D) (ci := 4) (v := .int v_t_sign_u5) (C := RX5) (T := TX5) (N := 4) hx hb hts hinX5 hown hK.1 hP 0 rfl rfl 3 (by decide) fl_43 (fun _ h9 => h9) rfl dX5_readAbove_31 ?_
    obtain ⟨ru6, hu6, hf⟩ := pn_bd1_at hf
    refine pn_calli [] (va_runS (As := [.int v_t_sign_u5]) (rest := []) ⟨hx, hb, hml, hown, hts⟩ (c_X5_isLetter l D cI cJ cZ H.size v_t_sign_u5 ru6 hu6) (va_cwS 1 hts gX5_readAbove_X5_isLetter rfl rfl rfl hdX5_isLetter ⟨Nat.le_of_ble_eq_true rfl, Nat.le_of_ble_eq_true rfl⟩) (pn_preS [] hP (hD.addr rfl) hK rfl rfl) rfl rfl hl.1 rfl (lv_room (Nat.le_of_ble_eq_true rfl)) dX5_readAbove_34 ⟨Nat.zero_le _, Nat.zero_le _⟩) hP (hD.addr rfl) hS hA rfl rfl rfl (fun H locs (hP : va_P D vwCl [(a_t, .inr (4, [.ref a_t_signs, .int v_t_length, .int v_t_place_u5, .int v_t_sign_u5])), (a_t_signs, .inl (cI, 120, .inl r_t_signs))] H) _ hS => ?_)
    refine lv_if_ne (tgt := 44) hx hb dX5_readAbove_37 (by decide) (fun c7 => ?_) (fun c7 => ?_)
    · have hf := pn_ifp c7 hf
      refine lv_aload_n hx hb dX5_readAbove_44 rfl (lv_at hl 1 rfl) ?_
      refine va_get (D := D) (ci := 4) (v := .int v_t_sign_u5) (C := RX5) (T := TX5) (N := 4) hx hb hts hinX5 hown hK.1 hP 0 rfl rfl 3 (by decide) fl_43 (fun _ h9 => h9) rfl dX5_readAbove_45 ?_
      refine lv_bipush (v := (65)) hx hb dX5_readAbove_48 (by decide) ?_
      refine lv_isub hx hb dX5_readAbove_50 ?_
      refine lv_topi (fun z8 ez8 => ?_)
      have hf := pn_nm_at ez8 hf
      refine lv_istore_n (lv' := [(2, .int z8), (1, .int z4), (0, .ref a_t)]) hx hb dX5_readAbove_51 rfl hl (by decide) rfl (fun ls hl => ?_)
      refine lv_aload_n hx hb dX5_readAbove_52 rfl (lv_at hl 2 rfl) ?_
      obtain ⟨v_t_place_u9, v_t_sign_u9, hu9, hf⟩ := pn_bd2_at hf
      refine pn_callv [0, 1] (va_runV (As := []) (rest := []) ⟨hx, hb, hml, hown, hts⟩ (c_X5_advance l D cI cJ cZ a_t a_t_signs H.size v_t_length v_t_place_u5 v_t_sign_u5 r_t_signs v_t_place_u9 v_t_sign_u9 hu9) (cwV 0 hts gX5_readAbove_X5_advance rfl rfl rfl hdX5_advance ⟨Nat.le_of_ble_eq_true rfl, Nat.le_of_ble_eq_true rfl⟩) (pn_preV [0, 1] hP (hD.addr rfl) hK rfl rfl (q0 := 0) (ci := 4) rfl rfl) rfl rfl hl.1 rfl (lv_room (Nat.le_of_ble_eq_true rfl)) dX5_readAbove_53 ⟨Nat.zero_le _, Nat.zero_le _⟩) hP (hD.addr rfl) hS hA rfl rfl rfl (fun H locs (hP : va_P D vwCl [(a_t, .inr (4, [.ref a_t_signs, .int v_t_length, .int v_t_place_u9, .int v_t_sign_u9])), (a_t_signs, .inl (cI, 120, .inl r_t_signs))] H) _ hS => ?_)
      refine lv_aload_n hx hb dX5_readAbove_56 rfl (lv_at hl 2 rfl) ?_
      refine lv_iload_n hx hb dX5_readAbove_57 rfl (lv_at hl 1 rfl) ?_
      refine lv_iload_n hx hb dX5_readAbove_58 rfl (lv_at hl 0 rfl) ?_
      obtain ⟨ru10, hu10, hf⟩ := pn_bd1_at hf
      refine pn_calll [] (va_runS (As := [.int z4, .int z8]) (rest := [.ref a_t]) ⟨hx, hb, hml, hown, hts⟩ (c_X0_makeAbove l D cI cJ cZ H.size z4 z8 ru10 hu10) (va_cwS 2 hts gX5_readAbove_X0_makeAbove rfl rfl rfl hdX0_makeAbove ⟨Nat.le_of_ble_eq_true rfl, Nat.le_of_ble_eq_true rfl⟩) (pn_preS [] hP (hD.addr rfl) hK rfl rfl) rfl rfl hl.1 rfl (lv_room (Nat.le_of_ble_eq_true rfl)) dX5_readAbove_59 ⟨Nat.zero_le _, Nat.zero_le _⟩) hP (hD.addr rfl) hS hA rfl rfl rfl (fun H locs (hP : va_P D vwCl [(a_t, .inr (4, [.ref a_t_signs, .int v_t_length, .int v_t_place_u9, .int v_t_sign_u9])), (a_t_signs, .inl (cI, 120, .inl r_t_signs))] H) _ hS => ?_)
      obtain ⟨ru11, v_t_place_u11, v_t_sign_u11, hu11, hf⟩ := pn_bd3_at hf
      refine pn_calll [0, 1] (va_runV (As := [.long ru10]) (rest := []) ⟨hx, hb, hml, hown, hts⟩ (c_X5_readPin l D cI cJ cZ a_t a_t_signs H.size v_t_length v_t_place_u9 v_t_sign_u9 r_t_signs ru10 ru11 v_t_place_u11 v_t_sign_u11 hu11) (cwV 1 hts gX5_readAbove_X5_readPin rfl rfl rfl hdX5_readPin ⟨Nat.le_of_ble_eq_true rfl, Nat.le_of_ble_eq_true rfl⟩) (pn_preV [0, 1] hP (hD.addr rfl) hK rfl rfl (q0 := 0) (ci := 4) rfl rfl) rfl rfl hl.1 rfl (lv_room (Nat.le_of_ble_eq_true rfl)) dX5_readAbove_62 ⟨Nat.zero_le _, Nat.zero_le _⟩) hP (hD.addr rfl) hS hA rfl rfl rfl (fun H locs (hP : va_P D vwCl [(a_t, .inr (4, [.ref a_t_signs, .int v_t_length, .int v_t_place_u11, .int v_t_sign_u11])), (a_t_signs, .inl (cI, 120, .inl r_t_signs))] H) _ hS => ?_)
      cases hf
      rw [hQ]
      exact pn_retl hx hb hr hlocks hP hS rfl dX5_readAbove_65
    · have hf := pn_ifq c7 hf
      refine lv_ldc2 hx hb hown kl_37 dX5_readAbove_40 ?_
      cases hf
      rw [hQ]
      exact pn_retl hx hb hr hlocks hP hS rfl dX5_readAbove_43
  · have hf := pn_ifq c3 hf
    refine lv_ldc2 hx hb hown kl_37 dX5_readAbove_14 ?_
    cases hf
    rw [hQ]
    exact pn_retl hx hb hr hlocks hP hS rfl dX5_readAbove_17
def f_X5_readCite (v_t_length : Int32) (v_t_place : Int32) (v_t_sign : Int32) (r_t_signs : Nat → Int32) : Option (Int64 × Int32 × Int32) :=
  pn_bd1 (f_X5_isLetter v_t_sign) fun ru1 =>
  if ru1 = 0 then
  if ¬ v_t_sign = (97 : Int32) then
  if v_t_sign = (105 : Int32) then
  pn_bd2 (f_X5_advance v_t_length v_t_place v_t_sign r_t_signs) fun v_t_place_u5 v_t_sign_u5 =>
  pn_bd1 (f_X0_makeSame ) fun ru6 =>
  pn_bd3 (f_X5_readPin v_t_length v_t_place_u5 v_t_sign_u5 r_t_signs ru6) fun ru7 v_t_place_u7 v_t_sign_u7 =>
  some (ru7, v_t_place_u7, v_t_sign_u7)
  else
  some ((-1 : Int64), v_t_place, v_t_sign)
  else
  pn_bd3 (f_X5_readAbove v_t_length v_t_place v_t_sign r_t_signs) fun ru8 v_t_place_u8 v_t_sign_u8 =>
  some (ru8, v_t_place_u8, v_t_sign_u8)
  else
  pn_bd3 (f_X5_readNamed v_t_length v_t_place v_t_sign r_t_signs) fun ru9 v_t_place_u9 v_t_sign_u9 =>
  some (ru9, v_t_place_u9, v_t_sign_u9)
set_option maxHeartbeats 4000000 in
set_option maxRecDepth 100000 in
theorem c_X5_readCite (l : Launch) (D : va_G) (cI cJ cZ : ClassId) (a_t a_t_signs : Nat) (sz : Nat) (v_t_length : Int32) (v_t_place : Int32) (v_t_sign : Int32) (r_t_signs : Nat → Int32) (rR : Int64) (o_t_place : Int32) (o_t_sign : Int32) (hf : f_X5_readCite v_t_length v_t_place v_t_sign r_t_signs = some (rR, o_t_place, o_t_sign)) : Met l yX5_readCite wsX5_readCite { frames := 4, cells := 0, slots := 0, locals := 92 } (pn_Pc D cI cJ cZ [.ref a_t] [(a_t, .inr (4, [.ref a_t_signs, .int v_t_length, .int v_t_place, .int v_t_sign])), (a_t_signs, .inl (cI, 120, .inl r_t_signs))] sz) (pn_Ql D rR [(a_t, .inr (4, [.ref a_t_signs, .int v_t_length, .int o_t_place, .int o_t_sign])), (a_t_signs, .inl (cI, 120, .inl r_t_signs))] (va_A [(a_t, .inr (4, [.ref a_t_signs, .int v_t_length, .int v_t_place, .int v_t_sign])), (a_t_signs, .inl (cI, 120, .inl r_t_signs))] sz)) 0 0 (va_A [(a_t, .inr (4, [.ref a_t_signs, .int v_t_length, .int v_t_place, .int v_t_sign])), (a_t_signs, .inl (cI, 120, .inl r_t_signs))] sz) := by
  refine pn_entry (cc := cX5_readCite) (maxL := 1) (ret := (some .long)) (Qf := pn_Ql D rR [(a_t, .inr (4, [.ref a_t_signs, .int v_t_length, .int o_t_place, .int o_t_sign])), (a_t_signs, .inl (cI, 120, .inl r_t_signs))]) (by decide) rfl (Nat.le_of_ble_eq_true rfl) ?_
  intro p e s m args below meth c A ls H locs Qm hQ hx hb hr hlocks hml hown hts hK hP hD hA hS hl
  have hl : lv_has ls 1 [(0, .ref a_t)] := hl
  have hinX5 : ∀ w ∈ wsX50, w ∈ wsX5_readCite := by decide +kernel
  have fl_43 := hts (.fieldLink RX5 43 "PointingNotes$Text" "sign" "I") (by decide +kernel)
  have kl_37 := hts (.constantLong RX5 37 (-1)) (by decide +kernel)
  rw [f_X5_readCite] at hf
  refine lv_aload_n hx hb dX5_readCite_0 rfl (lv_at hl 0 rfl) ?_
  refine va_get (D := D) (ci := 4) (v := .int v_t_sign) (C := RX5) (T := TX5) (N := 4) hx hb hts hinX5 hown hK.1 hP 0 rfl rfl 3 (by decide) fl_43 (fun _ h9 => h9) rfl dX5_readCite_1 ?_
  obtain ⟨ru1, hu1, hf⟩ := pn_bd1_at hf
  refine pn_calli [] (va_runS (As := [.int v_t_sign]) (rest := []) ⟨hx, hb, hml, hown, hts⟩ (c_X5_isLetter l D cI cJ cZ H.size v_t_sign ru1 hu1) (va_cwS 1 hts gX5_readCite_X5_isLetter rfl rfl rfl hdX5_isLetter ⟨Nat.le_of_ble_eq_true rfl, Nat.le_of_ble_eq_true rfl⟩) (pn_preS [] hP (hD.addr rfl) hK rfl rfl) rfl rfl hl.1 rfl (lv_room (Nat.le_of_ble_eq_true rfl)) dX5_readCite_4 ⟨Nat.zero_le _, Nat.zero_le _⟩) hP (hD.addr rfl) hS hA rfl rfl rfl (fun H locs (hP : va_P D vwCl [(a_t, .inr (4, [.ref a_t_signs, .int v_t_length, .int v_t_place, .int v_t_sign])), (a_t_signs, .inl (cI, 120, .inl r_t_signs))] H) _ hS => ?_)
  refine lv_if_eq (tgt := 15) hx hb dX5_readCite_7 (by decide) (fun c2 => ?_) (fun c2 => ?_)
  · have hf := pn_ifp c2 hf
    refine lv_aload_n hx hb dX5_readCite_15 rfl (lv_at hl 0 rfl) ?_
    refine va_get (D := D) (ci := 4) (v := .int v_t_sign) (C := RX5) (T := TX5) (N := 4) hx hb hts hinX5 hown hK.1 hP 0 rfl rfl 3 (by decide) fl_43 (fun _ h9 => h9) rfl dX5_readCite_16 ?_
    refine lv_bipush (v := (97)) hx hb dX5_readCite_19 (by decide) ?_
    refine lv_icmp_ne (tgt := 29) hx hb dX5_readCite_21 (by decide) (fun c3 => ?_) (fun c3 => ?_)
    · have hf := pn_ifp c3 hf
      refine lv_aload_n hx hb dX5_readCite_29 rfl (lv_at hl 0 rfl) ?_
      refine va_get (D := D) (ci := 4) (v := .int v_t_sign) (C := RX5) (T := TX5) (N := 4) hx hb hts hinX5 hown hK.1 hP 0 rfl rfl 3 (by decide) fl_43 (fun _ h9 => h9) rfl dX5_readCite_30 ?_
      refine lv_bipush (v := (105)) hx hb dX5_readCite_33 (by decide) ?_
      refine lv_icmp_eq (tgt := 42) hx hb dX5_readCite_35 (by decide) (fun c4 => ?_) (fun c4 => ?_)
      · have hf := pn_ifp c4 hf
        refine lv_aload_n hx hb dX5_readCite_42 rfl (lv_at hl 0 rfl) ?_
        obtain ⟨v_t_place_u5, v_t_sign_u5, hu5, hf⟩ := pn_bd2_at hf
        refine pn_callv [0, 1] (va_runV (As := []) (rest := []) ⟨hx, hb, hml, hown, hts⟩ (c_X5_advance l D cI cJ cZ a_t a_t_signs H.size v_t_length v_t_place v_t_sign r_t_signs v_t_place_u5 v_t_sign_u5 hu5) (cwV 0 hts gX5_readCite_X5_advance rfl rfl rfl hdX5_advance ⟨Nat.le_of_ble_eq_true rfl, Nat.le_of_ble_eq_true rfl⟩) (pn_preV [0, 1] hP (hD.addr rfl) hK rfl rfl (q0 := 0) (ci := 4) rfl rfl) rfl rfl hl.1 rfl (lv_room (Nat.le_of_ble_eq_true rfl)) dX5_readCite_43 ⟨Nat.zero_le _, Nat.zero_le _⟩) hP (hD.addr rfl) hS hA rfl rfl rfl (fun H locs (hP : va_P D vwCl [(a_t, .inr (4, [.ref a_t_signs, .int v_t_length, .int v_t_place_u5, .int v_t_sign_u5])), (a_t_signs, .inl (cI, 120, .inl r_t_signs))] H) _ hS => ?_)
        refine lv_aload_n hx hb dX5_readCite_46 rfl (lv_at hl 0 rfl) ?_
        obtain ⟨ru6, hu6, hf⟩ := pn_bd1_at hf
        refine pn_calll [] (va_runS (As := []) (rest := [.ref a_t]) ⟨hx, hb, hml, hown, hts⟩ (c_X0_makeSame l D cI cJ cZ H.size ru6 hu6) (va_cwS 0 hts gX5_readCite_X0_makeSame rfl rfl rfl hdX0_makeSame ⟨Nat.le_of_ble_eq_true rfl, Nat.le_of_ble_eq_true rfl⟩) (pn_preS [] hP (hD.addr rfl) hK rfl rfl) rfl rfl hl.1 rfl (lv_room (Nat.le_of_ble_eq_true rfl)) dX5_readCite_47 ⟨Nat.zero_le _, Nat.zero_le _⟩) hP (hD.addr rfl) hS hA rfl rfl rfl (fun H locs (hP : va_P D vwCl [(a_t, .inr (4, [.ref a_t_signs, .int v_t_length, .int v_t_place_u5, .int v_t_sign_u5])), (a_t_signs, .inl (cI, 120, .inl r_t_signs))] H) _ hS => ?_)
        obtain ⟨ru7, v_t_place_u7, v_t_sign_u7, hu7, hf⟩ := pn_bd3_at hf
        refine pn_calll [0, 1] (va_runV (As := [.long ru6]) (rest := []) ⟨hx, hb, hml, hown, hts⟩ (c_X5_readPin l D cI cJ cZ a_t a_t_signs H.size v_t_length v_t_place_u5 v_t_sign_u5 r_t_signs ru6 ru7 v_t_place_u7 v_t_sign_u7 hu7) (cwV 1 hts gX5_readCite_X5_readPin rfl rfl rfl hdX5_readPin ⟨Nat.le_of_ble_eq_true rfl, Nat.le_of_ble_eq_true rfl⟩) (pn_preV [0, 1] hP (hD.addr rfl) hK rfl rfl (q0 := 0) (ci := 4) rfl rfl) rfl rfl hl.1 rfl (lv_room (Nat.le_of_ble_eq_true rfl)) dX5_readCite_50 ⟨Nat.zero_le _, Nat.zero_le _⟩) hP (hD.addr rfl) hS hA rfl rfl rfl (fun H locs (hP : va_P D vwCl [(a_t, .inr (4, [.ref a_t_signs, .int v_t_length, .int v_t_place_u7, .int v_t_sign_u7])), (a_t_signs, .inl (cI, 120, .inl r_t_signs))] H) _ hS => ?_)
        cases hf
        rw [hQ]
        exact pn_retl hx hb hr hlocks hP hS rfl dX5_readCite_53
      · have hf := pn_ifn c4 hf
        refine lv_ldc2 hx hb hown kl_37 dX5_readCite_38 ?_
        cases hf
        rw [hQ]
        exact pn_retl hx hb hr hlocks hP hS rfl dX5_readCite_41
    · have hf := pn_ifq c3 hf
      refine lv_aload_n hx hb dX5_readCite_24 rfl (lv_at hl 0 rfl) ?_
      obtain ⟨ru8, v_t_place_u8, v_t_sign_u8, hu8, hf⟩ := pn_bd3_at hf
      refine pn_calll [0, 1] (va_runV (As := []) (rest := []) ⟨hx, hb, hml, hown, hts⟩ (c_X5_readAbove l D cI cJ cZ a_t a_t_signs H.size v_t_length v_t_place v_t_sign r_t_signs ru8 v_t_place_u8 v_t_sign_u8 hu8) (cwV 0 hts gX5_readCite_X5_readAbove rfl rfl rfl hdX5_readAbove ⟨Nat.le_of_ble_eq_true rfl, Nat.le_of_ble_eq_true rfl⟩) (pn_preV [0, 1] hP (hD.addr rfl) hK rfl rfl (q0 := 0) (ci := 4) rfl rfl) rfl rfl hl.1 rfl (lv_room (Nat.le_of_ble_eq_true rfl)) dX5_readCite_25 ⟨Nat.zero_le _, Nat.zero_le _⟩) hP (hD.addr rfl) hS hA rfl rfl rfl (fun H locs (hP : va_P D vwCl [(a_t, .inr (4, [.ref a_t_signs, .int v_t_length, .int v_t_place_u8, .int v_t_sign_u8])), (a_t_signs, .inl (cI, 120, .inl r_t_signs))] H) _ hS => ?_)
      cases hf
      rw [hQ]
      exact pn_retl hx hb hr hlocks hP hS rfl dX5_readCite_28
  · have hf := pn_ifn c2 hf
    refine lv_aload_n hx hb dX5_readCite_10 rfl (lv_at hl 0 rfl) ?_
    obtain ⟨ru9, v_t_place_u9, v_t_sign_u9, hu9, hf⟩ := pn_bd3_at hf
    refine pn_calll [0, 1] (va_runV (As := []) (rest := []) ⟨hx, hb, hml, hown, hts⟩ (c_X5_readNamed l D cI cJ cZ a_t a_t_signs H.size v_t_length v_t_place v_t_sign r_t_signs ru9 v_t_place_u9 v_t_sign_u9 hu9) (cwV 0 hts gX5_readCite_X5_readNamed rfl rfl rfl hdX5_readNamed ⟨Nat.le_of_ble_eq_true rfl, Nat.le_of_ble_eq_true rfl⟩) (pn_preV [0, 1] hP (hD.addr rfl) hK rfl rfl (q0 := 0) (ci := 4) rfl rfl) rfl rfl hl.1 rfl (lv_room (Nat.le_of_ble_eq_true rfl)) dX5_readCite_11 ⟨Nat.zero_le _, Nat.zero_le _⟩) hP (hD.addr rfl) hS hA rfl rfl rfl (fun H locs (hP : va_P D vwCl [(a_t, .inr (4, [.ref a_t_signs, .int v_t_length, .int v_t_place_u9, .int v_t_sign_u9])), (a_t_signs, .inl (cI, 120, .inl r_t_signs))] H) _ hS => ?_)
    cases hf
    rw [hQ]
    exact pn_retl hx hb hr hlocks hP hS rfl dX5_readCite_14
def j_X5_readInto_142 (rc : Int32 → Int32 → Int32 → Int32 → Int32 → (Nat → Int64) → (Nat → Int32) → Option ((Int32 × Int32 × Int32 × Int32 × (Nat → Int64) × (Nat → Int32)) ⊕ (Int32 × Int32 × Int32 × Int32 × (Nat → Int64) × (Nat → Int32)) ⊕ (Int32 × Int32 × Int32 × Int32 × (Nat → Int64) × (Nat → Int32)) ⊕ (Int32 × Int32 × Int32 × Int32 × (Nat → Int64) × (Nat → Int32)))) (v_t_length : Int32) (r_t_signs : Nat → Int32) (x2 : Int32) (x6 : Int32) (v_t_place : Int32) (v_t_sign : Int32) (v_q1_notes : Int32) (v_q1_version : Int32) (r_q1_cites : Nat → Int64) (r_q1_sizes : Nat → Int32) : Option ((Int32 × Int32 × Int32 × Int32 × (Nat → Int64) × (Nat → Int32)) ⊕ (Int32 × Int32 × Int32 × Int32 × (Nat → Int64) × (Nat → Int32)) ⊕ (Int32 × Int32 × Int32 × Int32 × (Nat → Int64) × (Nat → Int32)) ⊕ (Int32 × Int32 × Int32 × Int32 × (Nat → Int64) × (Nat → Int32))) :=
  if x6 = 0 then
  pn_bd2 (f_X5_advance v_t_length v_t_place v_t_sign r_t_signs) fun v_t_place_u2 v_t_sign_u2 =>
  pn_nm (x2 + (1 : Int32)) fun z3 =>
  rc z3 v_t_place_u2 v_t_sign_u2 v_q1_notes v_q1_version r_q1_cites r_q1_sizes
  else
  pn_bd3 (f_X1_openNote v_q1_notes v_q1_version r_q1_sizes) fun v_q1_notes_u4 v_q1_version_u4 r_q1_sizes_u4 =>
  pn_bd2 (f_X5_advance v_t_length v_t_place v_t_sign r_t_signs) fun v_t_place_u5 v_t_sign_u5 =>
  pn_nm (x2 + (1 : Int32)) fun z6 =>
  rc z6 v_t_place_u5 v_t_sign_u5 v_q1_notes_u4 v_q1_version_u4 r_q1_cites r_q1_sizes_u4
def j_X5_readInto_100 (rc : Int32 → Int32 → Int32 → Int32 → Int32 → (Nat → Int64) → (Nat → Int32) → Option ((Int32 × Int32 × Int32 × Int32 × (Nat → Int64) × (Nat → Int32)) ⊕ (Int32 × Int32 × Int32 × Int32 × (Nat → Int64) × (Nat → Int32)) ⊕ (Int32 × Int32 × Int32 × Int32 × (Nat → Int64) × (Nat → Int32)) ⊕ (Int32 × Int32 × Int32 × Int32 × (Nat → Int64) × (Nat → Int32)))) (v_t_length : Int32) (r_t_signs : Nat → Int32) (x2 : Int32) (s0 : Int32) (v_t_place : Int32) (v_t_sign : Int32) (v_q1_notes : Int32) (v_q1_version : Int32) (r_q1_cites : Nat → Int64) (r_q1_sizes : Nat → Int32) : Option ((Int32 × Int32 × Int32 × Int32 × (Nat → Int64) × (Nat → Int32)) ⊕ (Int32 × Int32 × Int32 × Int32 × (Nat → Int64) × (Nat → Int32)) ⊕ (Int32 × Int32 × Int32 × Int32 × (Nat → Int64) × (Nat → Int32)) ⊕ (Int32 × Int32 × Int32 × Int32 × (Nat → Int64) × (Nat → Int32))) :=
  if ¬ v_t_sign = (59 : Int32) then
  if ¬ s0 = 0 then
  j_X5_readInto_142 (rc) v_t_length r_t_signs x2 (0 : Int32) v_t_place v_t_sign v_q1_notes v_q1_version r_q1_cites r_q1_sizes
  else
  if ¬ (0 : Int32) = 0 then
  j_X5_readInto_142 (rc) v_t_length r_t_signs x2 (0 : Int32) v_t_place v_t_sign v_q1_notes v_q1_version r_q1_cites r_q1_sizes
  else
  some (.inr (.inr (.inl (v_t_place, v_t_sign, v_q1_notes, v_q1_version, r_q1_cites, r_q1_sizes))))
  else
  pn_bd1 (f_X1_notes v_q1_notes) fun ru10 =>
  if (8 : Int32) ≤ ru10 then
  if ¬ s0 = 0 then
  j_X5_readInto_142 (rc) v_t_length r_t_signs x2 (0 : Int32) v_t_place v_t_sign v_q1_notes v_q1_version r_q1_cites r_q1_sizes
  else
  if ¬ (0 : Int32) = 0 then
  j_X5_readInto_142 (rc) v_t_length r_t_signs x2 (0 : Int32) v_t_place v_t_sign v_q1_notes v_q1_version r_q1_cites r_q1_sizes
  else
  some (.inr (.inr (.inl (v_t_place, v_t_sign, v_q1_notes, v_q1_version, r_q1_cites, r_q1_sizes))))
  else
  if ¬ s0 = 0 then
  j_X5_readInto_142 (rc) v_t_length r_t_signs x2 (1 : Int32) v_t_place v_t_sign v_q1_notes v_q1_version r_q1_cites r_q1_sizes
  else
  if ¬ (1 : Int32) = 0 then
  j_X5_readInto_142 (rc) v_t_length r_t_signs x2 (1 : Int32) v_t_place v_t_sign v_q1_notes v_q1_version r_q1_cites r_q1_sizes
  else
  some (.inr (.inr (.inl (v_t_place, v_t_sign, v_q1_notes, v_q1_version, r_q1_cites, r_q1_sizes))))
def lp_X5_readInto_29 (v_t_length : Int32) (r_t_signs : Nat → Int32) : Nat → Int32 → Int32 → Int32 → Int32 → Int32 → (Nat → Int64) → (Nat → Int32) → Option ((Int32 × Int32 × Int32 × Int32 × (Nat → Int64) × (Nat → Int32)) ⊕ (Int32 × Int32 × Int32 × Int32 × (Nat → Int64) × (Nat → Int32)) ⊕ (Int32 × Int32 × Int32 × Int32 × (Nat → Int64) × (Nat → Int32)) ⊕ (Int32 × Int32 × Int32 × Int32 × (Nat → Int64) × (Nat → Int32)))
  | 0, _, _, _, _, _, _, _ => none
  | n + 1, x2, v_t_place, v_t_sign, v_q1_notes, v_q1_version, r_q1_cites, r_q1_sizes =>
    if (32 : Int32) ≤ x2 then
  some (.inr (.inr (.inr (v_t_place, v_t_sign, v_q1_notes, v_q1_version, r_q1_cites, r_q1_sizes))))
  else
  pn_bd3 (f_X5_readCite v_t_length v_t_place v_t_sign r_t_signs) fun ru17 v_t_place_u17 v_t_sign_u17 =>
  if ¬ (lg_cmp ru17 (-1 : Int64)) = 0 then
  pn_bd3 (f_X1_addCite v_q1_notes v_q1_version r_q1_cites r_q1_sizes ru17) fun v_q1_version_u19 r_q1_cites_u19 r_q1_sizes_u19 =>
  if ¬ v_t_place_u17 = v_t_length then
  if ¬ v_t_sign_u17 = (44 : Int32) then
  j_X5_readInto_100 (lp_X5_readInto_29 v_t_length r_t_signs n) v_t_length r_t_signs x2 (0 : Int32) v_t_place_u17 v_t_sign_u17 v_q1_notes v_q1_version_u19 r_q1_cites_u19 r_q1_sizes_u19
  else
  pn_bd1 (f_X1_notes v_q1_notes) fun ru22 =>
  pn_bd1 (f_X1_size v_q1_notes r_q1_sizes_u19 (ru22 - (1 : Int32))) fun ru23 =>
  if (4 : Int32) ≤ ru23 then
  j_X5_readInto_100 (lp_X5_readInto_29 v_t_length r_t_signs n) v_t_length r_t_signs x2 (0 : Int32) v_t_place_u17 v_t_sign_u17 v_q1_notes v_q1_version_u19 r_q1_cites_u19 r_q1_sizes_u19
  else
  j_X5_readInto_100 (lp_X5_readInto_29 v_t_length r_t_signs n) v_t_length r_t_signs x2 (1 : Int32) v_t_place_u17 v_t_sign_u17 v_q1_notes v_q1_version_u19 r_q1_cites_u19 r_q1_sizes_u19
  else
  some (.inr (.inl (v_t_place_u17, v_t_sign_u17, v_q1_notes, v_q1_version_u19, r_q1_cites_u19, r_q1_sizes_u19)))
  else
  some (.inl (v_t_place_u17, v_t_sign_u17, v_q1_notes, v_q1_version, r_q1_cites, r_q1_sizes))
def f_X5_readInto (N : Nat) (v_t_length : Int32) (v_t_place : Int32) (v_t_sign : Int32) (r_t_signs : Nat → Int32) (v_q1_notes : Int32) (v_q1_version : Int32) (r_q1_cites : Nat → Int64) (r_q1_sizes : Nat → Int32) : Option (Int32 × Int32 × Int32 × Int32 × Int32 × (Nat → Int64) × (Nat → Int32)) :=
  pn_bd2 (f_X5_advance v_t_length (-1 : Int32) v_t_sign r_t_signs) fun v_t_place_u25 v_t_sign_u25 =>
  pn_bd2 (f_X1_clear v_q1_notes v_q1_version) fun v_q1_notes_u26 v_q1_version_u26 =>
  if ¬ v_t_length = 0 then
  pn_bd3 (f_X1_openNote v_q1_notes_u26 v_q1_version_u26 r_q1_sizes) fun v_q1_notes_u28 v_q1_version_u28 r_q1_sizes_u28 =>
  pn_bd1 (lp_X5_readInto_29 v_t_length r_t_signs N (0 : Int32) v_t_place_u25 v_t_sign_u25 v_q1_notes_u28 v_q1_version_u28 r_q1_cites r_q1_sizes_u28) (fun X29 => pn_s2 X29 (pn_u6 fun v_t_place_w29 v_t_sign_w29 v_q1_notes_w29 v_q1_version_w29 r_q1_cites_w29 r_q1_sizes_w29 => some (v_t_place_w29, v_t_place_w29, v_t_sign_w29, v_q1_notes_w29, v_q1_version_w29, r_q1_cites_w29, r_q1_sizes_w29)) (fun Y29_0 => pn_s2 Y29_0 (pn_u6 fun v_t_place_w30 v_t_sign_w30 v_q1_notes_w30 v_q1_version_w30 r_q1_cites_w30 r_q1_sizes_w30 => some ((-9 : Int32), v_t_place_w30, v_t_sign_w30, v_q1_notes_w30, v_q1_version_w30, r_q1_cites_w30, r_q1_sizes_w30)) (fun Y29_1 => pn_s2 Y29_1 (pn_u6 fun v_t_place_w31 v_t_sign_w31 v_q1_notes_w31 v_q1_version_w31 r_q1_cites_w31 r_q1_sizes_w31 => some (v_t_place_w31, v_t_place_w31, v_t_sign_w31, v_q1_notes_w31, v_q1_version_w31, r_q1_cites_w31, r_q1_sizes_w31)) (fun Y29_2 => (pn_u6 fun v_t_place_w32 v_t_sign_w32 v_q1_notes_w32 v_q1_version_w32 r_q1_cites_w32 r_q1_sizes_w32 => some (v_t_place_w32, v_t_place_w32, v_t_sign_w32, v_q1_notes_w32, v_q1_version_w32, r_q1_cites_w32, r_q1_sizes_w32)) Y29_2))))
  else
  some ((-9 : Int32), v_t_place_u25, v_t_sign_u25, v_q1_notes_u26, v_q1_version_u26, r_q1_cites, r_q1_sizes)
set_option maxHeartbeats 4000000 in
set_option maxRecDepth 100000 in
theorem c_X5_readInto (l : Launch) (D : va_G) (cI cJ cZ : ClassId) (a_t a_t_signs a_q1 a_q1_sizes a_q1_cites : Nat) (sz : Nat) (N : Nat) (v_t_length : Int32) (v_t_place : Int32) (v_t_sign : Int32) (r_t_signs : Nat → Int32) (v_q1_notes : Int32) (v_q1_version : Int32) (r_q1_cites : Nat → Int64) (r_q1_sizes : Nat → Int32) (rR : Int32) (o_t_place : Int32) (o_t_sign : Int32) (o_q1_notes : Int32) (o_q1_version : Int32) (o_q1_cites : Nat → Int64) (o_q1_sizes : Nat → Int32) (hf : f_X5_readInto N v_t_length v_t_place v_t_sign r_t_signs v_q1_notes v_q1_version r_q1_cites r_q1_sizes = some (rR, o_t_place, o_t_sign, o_q1_notes, o_q1_version, o_q1_cites, o_q1_sizes)) : Met l yX5_readInto wsX5_readInto { frames := 5, cells := 0, slots := 0, locals := 112 } (pn_Pc D cI cJ cZ [.ref a_t, .ref a_q1] [(a_t, .inr (4, [.ref a_t_signs, .int v_t_length, .int v_t_place, .int v_t_sign])), (a_t_signs, .inl (cI, 120, .inl r_t_signs)), (a_q1, .inr (0, [.ref a_q1_sizes, .ref a_q1_cites, .int v_q1_notes, .int v_q1_version])), (a_q1_cites, .inl (cJ, 32, .inr (.inl r_q1_cites))), (a_q1_sizes, .inl (cI, 8, .inl r_q1_sizes))] sz) (pn_Qi D rR [(a_t, .inr (4, [.ref a_t_signs, .int v_t_length, .int o_t_place, .int o_t_sign])), (a_t_signs, .inl (cI, 120, .inl r_t_signs)), (a_q1, .inr (0, [.ref a_q1_sizes, .ref a_q1_cites, .int o_q1_notes, .int o_q1_version])), (a_q1_cites, .inl (cJ, 32, .inr (.inl o_q1_cites))), (a_q1_sizes, .inl (cI, 8, .inl o_q1_sizes))] (va_A [(a_t, .inr (4, [.ref a_t_signs, .int v_t_length, .int v_t_place, .int v_t_sign])), (a_t_signs, .inl (cI, 120, .inl r_t_signs)), (a_q1, .inr (0, [.ref a_q1_sizes, .ref a_q1_cites, .int v_q1_notes, .int v_q1_version])), (a_q1_cites, .inl (cJ, 32, .inr (.inl r_q1_cites))), (a_q1_sizes, .inl (cI, 8, .inl r_q1_sizes))] sz)) 0 0 (va_A [(a_t, .inr (4, [.ref a_t_signs, .int v_t_length, .int v_t_place, .int v_t_sign])), (a_t_signs, .inl (cI, 120, .inl r_t_signs)), (a_q1, .inr (0, [.ref a_q1_sizes, .ref a_q1_cites, .int v_q1_notes, .int v_q1_version])), (a_q1_cites, .inl (cJ, 32, .inr (.inl r_q1_cites))), (a_q1_sizes, .inl (cI, 8, .inl r_q1_sizes))] sz) := by
  refine pn_entry (cc := cX5_readInto) (maxL := 7) (ret := (some .int)) (Qf := pn_Qi D rR [(a_t, .inr (4, [.ref a_t_signs, .int v_t_length, .int o_t_place, .int o_t_sign])), (a_t_signs, .inl (cI, 120, .inl r_t_signs)), (a_q1, .inr (0, [.ref a_q1_sizes, .ref a_q1_cites, .int o_q1_notes, .int o_q1_version])), (a_q1_cites, .inl (cJ, 32, .inr (.inl o_q1_cites))), (a_q1_sizes, .inl (cI, 8, .inl o_q1_sizes))]) (by decide) rfl (Nat.le_of_ble_eq_true rfl) ?_
  intro p e s m args below meth c A ls H locs Qm hQ hx hb hr hlocks hml hown hts hK hP hD hA hS hl
  have hl : lv_has ls 7 [(0, .ref a_t), (1, .ref a_q1)] := hl
  have hinX5 : ∀ w ∈ wsX50, w ∈ wsX5_readInto := by decide +kernel
  have fl_15 := hts (.fieldLink RX5 15 "PointingNotes$Text" "length" "I") (by decide +kernel)
  have fl_19 := hts (.fieldLink RX5 19 "PointingNotes$Text" "place" "I") (by decide +kernel)
  have fl_43 := hts (.fieldLink RX5 43 "PointingNotes$Text" "sign" "I") (by decide +kernel)
  have kl_37 := hts (.constantLong RX5 37 (-1)) (by decide +kernel)
  rw [f_X5_readInto] at hf
  have lp29 : ∀ (n : Nat) (x2 : Int32) (v_t_place : Int32) (v_t_sign : Int32) (v_q1_notes : Int32) (v_q1_version : Int32) (r_q1_cites : Nat → Int64) (r_q1_sizes : Nat → Int32) (X : (Int32 × Int32 × Int32 × Int32 × (Nat → Int64) × (Nat → Int32)) ⊕ (Int32 × Int32 × Int32 × Int32 × (Nat → Int64) × (Nat → Int32)) ⊕ (Int32 × Int32 × Int32 × Int32 × (Nat → Int64) × (Nat → Int32)) ⊕ (Int32 × Int32 × Int32 × Int32 × (Nat → Int64) × (Nat → Int32))) (H : Heap) (locs : List Loc) (ls : Array Slot), lp_X5_readInto_29 v_t_length r_t_signs n x2 v_t_place v_t_sign v_q1_notes v_q1_version r_q1_cites r_q1_sizes = some X → va_P D vwCl [(a_t, .inr (4, [.ref a_t_signs, .int v_t_length, .int v_t_place, .int v_t_sign])), (a_t_signs, .inl (cI, 120, .inl r_t_signs)), (a_q1, .inr (0, [.ref a_q1_sizes, .ref a_q1_cites, .int v_q1_notes, .int v_q1_version])), (a_q1_cites, .inl (cJ, 32, .inr (.inl r_q1_cites))), (a_q1_sizes, .inl (cI, 8, .inl r_q1_sizes))] H → va_S A s.heap H locs → lv_has ls 7 [(0, .ref a_t), (1, .ref a_q1), (2, .int x2)] → (∀  (v_t_place' : Int32) (v_t_sign' : Int32) (v_q1_notes' : Int32) (v_q1_version' : Int32) (r_q1_cites' : Nat → Int64) (r_q1_sizes' : Nat → Int32) (H : Heap) (locs : List Loc) (ls : Array Slot), X = .inl (v_t_place', v_t_sign', v_q1_notes', v_q1_version', r_q1_cites', r_q1_sizes') → va_P D vwCl [(a_t, .inr (4, [.ref a_t_signs, .int v_t_length, .int (v_t_place'), .int (v_t_sign')])), (a_t_signs, .inl (cI, 120, .inl r_t_signs)), (a_q1, .inr (0, [.ref a_q1_sizes, .ref a_q1_cites, .int (v_q1_notes'), .int (v_q1_version')])), (a_q1_cites, .inl (cJ, 32, .inr (.inl (r_q1_cites')))), (a_q1_sizes, .inl (cI, 8, .inl (r_q1_sizes')))] H → va_S A s.heap H locs → lv_has ls 7 [(0, .ref a_t)] → W p l e { frames := 5, cells := 0, slots := 0, locals := 112 } s m args below meth c H locs 0 0 Qm (F0 m 48 ls [])) → (∀  (v_t_place' : Int32) (v_t_sign' : Int32) (v_q1_notes' : Int32) (v_q1_version' : Int32) (r_q1_cites' : Nat → Int64) (r_q1_sizes' : Nat → Int32) (H : Heap) (locs : List Loc) (ls : Array Slot), X = .inr (.inl (v_t_place', v_t_sign', v_q1_notes', v_q1_version', r_q1_cites', r_q1_sizes')) → va_P D vwCl [(a_t, .inr (4, [.ref a_t_signs, .int v_t_length, .int (v_t_place'), .int (v_t_sign')])), (a_t_signs, .inl (cI, 120, .inl r_t_signs)), (a_q1, .inr (0, [.ref a_q1_sizes, .ref a_q1_cites, .int (v_q1_notes'), .int (v_q1_version')])), (a_q1_cites, .inl (cJ, 32, .inr (.inl (r_q1_cites')))), (a_q1_sizes, .inl (cI, 8, .inl (r_q1_sizes')))] H → va_S A s.heap H locs → lv_has ls 7 [] → W p l e { frames := 5, cells := 0, slots := 0, locals := 112 } s m args below meth c H locs 0 0 Qm (F0 m 69 ls [])) → (∀  (v_t_place' : Int32) (v_t_sign' : Int32) (v_q1_notes' : Int32) (v_q1_version' : Int32) (r_q1_cites' : Nat → Int64) (r_q1_sizes' : Nat → Int32) (H : Heap) (locs : List Loc) (ls : Array Slot), X = .inr (.inr (.inl (v_t_place', v_t_sign', v_q1_notes', v_q1_version', r_q1_cites', r_q1_sizes'))) → va_P D vwCl [(a_t, .inr (4, [.ref a_t_signs, .int v_t_length, .int (v_t_place'), .int (v_t_sign')])), (a_t_signs, .inl (cI, 120, .inl r_t_signs)), (a_q1, .inr (0, [.ref a_q1_sizes, .ref a_q1_cites, .int (v_q1_notes'), .int (v_q1_version')])), (a_q1_cites, .inl (cJ, 32, .inr (.inl (r_q1_cites')))), (a_q1_sizes, .inl (cI, 8, .inl (r_q1_sizes')))] H → va_S A s.heap H locs → lv_has ls 7 [(0, .ref a_t)] → W p l e { frames := 5, cells := 0, slots := 0, locals := 112 } s m args below meth c H locs 0 0 Qm (F0 m 137 ls [])) → (∀  (v_t_place' : Int32) (v_t_sign' : Int32) (v_q1_notes' : Int32) (v_q1_version' : Int32) (r_q1_cites' : Nat → Int64) (r_q1_sizes' : Nat → Int32) (H : Heap) (locs : List Loc) (ls : Array Slot), X = .inr (.inr (.inr (v_t_place', v_t_sign', v_q1_notes', v_q1_version', r_q1_cites', r_q1_sizes'))) → va_P D vwCl [(a_t, .inr (4, [.ref a_t_signs, .int v_t_length, .int (v_t_place'), .int (v_t_sign')])), (a_t_signs, .inl (cI, 120, .inl r_t_signs)), (a_q1, .inr (0, [.ref a_q1_sizes, .ref a_q1_cites, .int (v_q1_notes'), .int (v_q1_version')])), (a_q1_cites, .inl (cJ, 32, .inr (.inl (r_q1_cites')))), (a_q1_sizes, .inl (cI, 8, .inl (r_q1_sizes')))] H → va_S A s.heap H locs → lv_has ls 7 [(0, .ref a_t)] → W p l e { frames := 5, cells := 0, slots := 0, locals := 112 } s m args below meth c H locs 0 0 Qm (F0 m 161 ls [])) → W p l e { frames := 5, cells := 0, slots := 0, locals := 112 } s m args below meth c H locs 0 0 Qm (F0 m 29 ls []) := by
    intro n
    induction n with
    | zero => intro x2 v_t_place v_t_sign v_q1_notes v_q1_version r_q1_cites r_q1_sizes X H locs ls hf; cases hf
    | succ n ih =>
      intro x2 v_t_place v_t_sign v_q1_notes v_q1_version r_q1_cites r_q1_sizes X H locs ls hf hP hS hl kx48 kx69 kx137 kx161
      rw [lp_X5_readInto_29] at hf
      have jn142 : ∀ (x2 : Int32) (x6 : Int32) (v_t_place : Int32) (v_t_sign : Int32) (v_q1_notes : Int32) (v_q1_version : Int32) (r_q1_cites : Nat → Int64) (r_q1_sizes : Nat → Int32) (H : Heap) (locs : List Loc) (ls : Array Slot), j_X5_readInto_142 (lp_X5_readInto_29 v_t_length r_t_signs n) v_t_length r_t_signs x2 x6 v_t_place v_t_sign v_q1_notes v_q1_version r_q1_cites r_q1_sizes = some X → va_P D vwCl [(a_t, .inr (4, [.ref a_t_signs, .int v_t_length, .int v_t_place, .int v_t_sign])), (a_t_signs, .inl (cI, 120, .inl r_t_signs)), (a_q1, .inr (0, [.ref a_q1_sizes, .ref a_q1_cites, .int v_q1_notes, .int v_q1_version])), (a_q1_cites, .inl (cJ, 32, .inr (.inl r_q1_cites))), (a_q1_sizes, .inl (cI, 8, .inl r_q1_sizes))] H → va_S A s.heap H locs → lv_has ls 7 [(0, .ref a_t), (1, .ref a_q1), (2, .int x2), (6, .int x6)] → W p l e { frames := 5, cells := 0, slots := 0, locals := 112 } s m args below meth c H locs 0 0 Qm (F0 m 142 ls []) := by
        intro x2 x6 v_t_place v_t_sign v_q1_notes v_q1_version r_q1_cites r_q1_sizes H locs ls hf hP hS hl
        rw [j_X5_readInto_142] at hf
        refine lv_iload hx hb dX5_readInto_142 (lv_at hl 3 rfl) ?_
        refine lv_if_eq (tgt := 151) hx hb dX5_readInto_144 (by decide) (fun c1 => ?_) (fun c1 => ?_)
        · have hf := pn_ifp c1 hf
          refine lv_aload_n hx hb dX5_readInto_151 rfl (lv_at hl 0 rfl) ?_
          obtain ⟨v_t_place_u2, v_t_sign_u2, hu2, hf⟩ := pn_bd2_at hf
          refine pn_callv [0, 1] (va_runV (As := []) (rest := []) ⟨hx, hb, hml, hown, hts⟩ (c_X5_advance l D cI cJ cZ a_t a_t_signs H.size v_t_length v_t_place v_t_sign r_t_signs v_t_place_u2 v_t_sign_u2 hu2) (cwV 0 hts gX5_readInto_X5_advance rfl rfl rfl hdX5_advance ⟨Nat.le_of_ble_eq_true rfl, Nat.le_of_ble_eq_true rfl⟩) (pn_preV [0, 1] hP (hD.addr rfl) hK rfl rfl (q0 := 0) (ci := 4) rfl rfl) rfl rfl hl.1 rfl (lv_room (Nat.le_of_ble_eq_true rfl)) dX5_readInto_152 ⟨Nat.zero_le _, Nat.zero_le _⟩) hP (hD.addr rfl) hS hA rfl rfl rfl (fun H locs (hP : va_P D vwCl [(a_t, .inr (4, [.ref a_t_signs, .int v_t_length, .int v_t_place_u2, .int v_t_sign_u2])), (a_t_signs, .inl (cI, 120, .inl r_t_signs)), (a_q1, .inr (0, [.ref a_q1_sizes, .ref a_q1_cites, .int v_q1_notes, .int v_q1_version])), (a_q1_cites, .inl (cJ, 32, .inr (.inl r_q1_cites))), (a_q1_sizes, .inl (cI, 8, .inl r_q1_sizes))] H) _ hS => ?_)
          obtain ⟨z3, ez3⟩ : ∃ y : Int32, y = x2 + (1) := ⟨_, rfl⟩
          have hf := pn_nm_at ez3 hf
          refine lv_iinc (v := z3) (lv' := [(2, .int z3), (0, .ref a_t), (1, .ref a_q1), (6, .int x6)]) hx hb dX5_readInto_155 hl (k := 2) rfl (by rw [ez3]; rfl) (by decide) rfl (fun ls hl => ?_)
          refine lv_goto (tgt := 29) hx hb dX5_readInto_158 (by decide) ?_
          exact ih z3 v_t_place_u2 v_t_sign_u2 v_q1_notes v_q1_version r_q1_cites r_q1_sizes X H locs ls hf hP hS (lv_sub hl [1, 2, 0] rfl) kx48 kx69 kx137 kx161
        · have hf := pn_ifn c1 hf
          refine lv_aload_n hx hb dX5_readInto_147 rfl (lv_at hl 1 rfl) ?_
          obtain ⟨v_q1_notes_u4, v_q1_version_u4, r_q1_sizes_u4, hu4, hf⟩ := pn_bd3_at hf
          refine pn_callv [2, 4] (va_runV (As := []) (rest := []) ⟨hx, hb, hml, hown, hts⟩ (c_X1_openNote l D cI cJ cZ a_q1 a_q1_sizes a_q1_cites H.size v_q1_notes v_q1_version r_q1_sizes v_q1_notes_u4 v_q1_version_u4 r_q1_sizes_u4 hu4) (cwV 0 hts gX5_readInto_X1_openNote rfl rfl rfl hdX1_openNote ⟨Nat.le_of_ble_eq_true rfl, Nat.le_of_ble_eq_true rfl⟩) (pn_preV [2, 4] hP (hD.addr rfl) hK rfl rfl (q0 := 2) (ci := 0) rfl rfl) rfl rfl hl.1 rfl (lv_room (Nat.le_of_ble_eq_true rfl)) dX5_readInto_148 ⟨Nat.zero_le _, Nat.zero_le _⟩) hP (hD.addr rfl) hS hA rfl rfl rfl (fun H locs (hP : va_P D vwCl [(a_t, .inr (4, [.ref a_t_signs, .int v_t_length, .int v_t_place, .int v_t_sign])), (a_t_signs, .inl (cI, 120, .inl r_t_signs)), (a_q1, .inr (0, [.ref a_q1_sizes, .ref a_q1_cites, .int v_q1_notes_u4, .int v_q1_version_u4])), (a_q1_cites, .inl (cJ, 32, .inr (.inl r_q1_cites))), (a_q1_sizes, .inl (cI, 8, .inl r_q1_sizes_u4))] H) _ hS => ?_)
          refine lv_aload_n hx hb dX5_readInto_151 rfl (lv_at hl 0 rfl) ?_
          obtain ⟨v_t_place_u5, v_t_sign_u5, hu5, hf⟩ := pn_bd2_at hf
          refine pn_callv [0, 1] (va_runV (As := []) (rest := []) ⟨hx, hb, hml, hown, hts⟩ (c_X5_advance l D cI cJ cZ a_t a_t_signs H.size v_t_length v_t_place v_t_sign r_t_signs v_t_place_u5 v_t_sign_u5 hu5) (cwV 0 hts gX5_readInto_X5_advance rfl rfl rfl hdX5_advance ⟨Nat.le_of_ble_eq_true rfl, Nat.le_of_ble_eq_true rfl⟩) (pn_preV [0, 1] hP (hD.addr rfl) hK rfl rfl (q0 := 0) (ci := 4) rfl rfl) rfl rfl hl.1 rfl (lv_room (Nat.le_of_ble_eq_true rfl)) dX5_readInto_152 ⟨Nat.zero_le _, Nat.zero_le _⟩) hP (hD.addr rfl) hS hA rfl rfl rfl (fun H locs (hP : va_P D vwCl [(a_t, .inr (4, [.ref a_t_signs, .int v_t_length, .int v_t_place_u5, .int v_t_sign_u5])), (a_t_signs, .inl (cI, 120, .inl r_t_signs)), (a_q1, .inr (0, [.ref a_q1_sizes, .ref a_q1_cites, .int v_q1_notes_u4, .int v_q1_version_u4])), (a_q1_cites, .inl (cJ, 32, .inr (.inl r_q1_cites))), (a_q1_sizes, .inl (cI, 8, .inl r_q1_sizes_u4))] H) _ hS => ?_)
          obtain ⟨z6, ez6⟩ : ∃ y : Int32, y = x2 + (1) := ⟨_, rfl⟩
          have hf := pn_nm_at ez6 hf
          refine lv_iinc (v := z6) (lv' := [(2, .int z6), (0, .ref a_t), (1, .ref a_q1), (6, .int x6)]) hx hb dX5_readInto_155 hl (k := 2) rfl (by rw [ez6]; rfl) (by decide) rfl (fun ls hl => ?_)
          refine lv_goto (tgt := 29) hx hb dX5_readInto_158 (by decide) ?_
          exact ih z6 v_t_place_u5 v_t_sign_u5 v_q1_notes_u4 v_q1_version_u4 r_q1_cites r_q1_sizes_u4 X H locs ls hf hP hS (lv_sub hl [1, 2, 0] rfl) kx48 kx69 kx137 kx161
      have jn100 : ∀ (x2 : Int32) (s0 : Int32) (v_t_place : Int32) (v_t_sign : Int32) (v_q1_notes : Int32) (v_q1_version : Int32) (r_q1_cites : Nat → Int64) (r_q1_sizes : Nat → Int32) (H : Heap) (locs : List Loc) (ls : Array Slot), j_X5_readInto_100 (lp_X5_readInto_29 v_t_length r_t_signs n) v_t_length r_t_signs x2 s0 v_t_place v_t_sign v_q1_notes v_q1_version r_q1_cites r_q1_sizes = some X → va_P D vwCl [(a_t, .inr (4, [.ref a_t_signs, .int v_t_length, .int v_t_place, .int v_t_sign])), (a_t_signs, .inl (cI, 120, .inl r_t_signs)), (a_q1, .inr (0, [.ref a_q1_sizes, .ref a_q1_cites, .int v_q1_notes, .int v_q1_version])), (a_q1_cites, .inl (cJ, 32, .inr (.inl r_q1_cites))), (a_q1_sizes, .inl (cI, 8, .inl r_q1_sizes))] H → va_S A s.heap H locs → lv_has ls 7 [(0, .ref a_t), (1, .ref a_q1), (2, .int x2)] → W p l e { frames := 5, cells := 0, slots := 0, locals := 112 } s m args below meth c H locs 0 0 Qm (F0 m 100 ls [.int s0]) := by
        intro x2 s0 v_t_place v_t_sign v_q1_notes v_q1_version r_q1_cites r_q1_sizes H locs ls hf hP hS hl
        rw [j_X5_readInto_100] at hf
        refine lv_istore (lv' := [(5, .int s0), (0, .ref a_t), (1, .ref a_q1), (2, .int x2)]) hx hb dX5_readInto_100 hl (by decide) rfl (fun ls hl => ?_)
        refine lv_aload_n hx hb dX5_readInto_102 rfl (lv_at hl 1 rfl) ?_
        refine va_get (D := D) (ci := 4) (v := .int v_t_sign) (C := RX5) (T := TX5) (N := 4) hx hb hts hinX5 hown hK.1 hP 0 rfl rfl 3 (by decide) fl_43 (fun _ h9 => h9) rfl dX5_readInto_103 ?_
        refine lv_bipush (v := (59)) hx hb dX5_readInto_106 (by decide) ?_
        refine lv_icmp_ne (tgt := 124) hx hb dX5_readInto_108 (by decide) (fun c7 => ?_) (fun c7 => ?_)
        · have hf := pn_ifp c7 hf
          refine lv_iconst (v := (0)) hx hb dX5_readInto_124 (by decide) ?_
          refine lv_istore (lv' := [(6, .int (0 : Int32)), (5, .int s0), (0, .ref a_t), (1, .ref a_q1), (2, .int x2)]) hx hb dX5_readInto_125 hl (by decide) rfl (fun ls hl => ?_)
          refine lv_iload hx hb dX5_readInto_127 (lv_at hl 1 rfl) ?_
          refine lv_if_ne (tgt := 142) hx hb dX5_readInto_129 (by decide) (fun c8 => ?_) (fun c8 => ?_)
          · have hf := pn_ifp c8 hf
            exact jn142 x2 (0 : Int32) v_t_place v_t_sign v_q1_notes v_q1_version r_q1_cites r_q1_sizes H locs ls hf hP hS (lv_sub hl [2, 3, 4, 0] rfl)
          · have hf := pn_ifq c8 hf
            refine lv_iload hx hb dX5_readInto_132 (lv_at hl 0 rfl) ?_
            refine lv_if_ne (tgt := 142) hx hb dX5_readInto_134 (by decide) (fun c9 => ?_) (fun c9 => ?_)
            · have hf := pn_ifp c9 hf
              exact jn142 x2 (0 : Int32) v_t_place v_t_sign v_q1_notes v_q1_version r_q1_cites r_q1_sizes H locs ls hf hP hS (lv_sub hl [2, 3, 4, 0] rfl)
            · have hf := pn_ifq c9 hf
              exact kx137 v_t_place v_t_sign v_q1_notes v_q1_version r_q1_cites r_q1_sizes H locs ls (Option.some.inj hf).symm hP hS (lv_sub hl [2] rfl)
        · have hf := pn_ifq c7 hf
          refine lv_aload_n hx hb dX5_readInto_111 rfl (lv_at hl 2 rfl) ?_
          obtain ⟨ru10, hu10, hf⟩ := pn_bd1_at hf
          refine pn_calli [2] (va_runV (As := []) (rest := []) ⟨hx, hb, hml, hown, hts⟩ (c_X1_notes l D cI cJ cZ a_q1 a_q1_sizes a_q1_cites H.size v_q1_version v_q1_notes ru10 hu10) (cwV 0 hts gX5_readInto_X1_notes rfl rfl rfl hdX1_notes ⟨Nat.le_of_ble_eq_true rfl, Nat.le_of_ble_eq_true rfl⟩) (pn_preV [2] hP (hD.addr rfl) hK rfl rfl (q0 := 2) (ci := 0) rfl rfl) rfl rfl hl.1 rfl (lv_room (Nat.le_of_ble_eq_true rfl)) dX5_readInto_112 ⟨Nat.zero_le _, Nat.zero_le _⟩) hP (hD.addr rfl) hS hA rfl rfl rfl (fun H locs (hP : va_P D vwCl [(a_t, .inr (4, [.ref a_t_signs, .int v_t_length, .int v_t_place, .int v_t_sign])), (a_t_signs, .inl (cI, 120, .inl r_t_signs)), (a_q1, .inr (0, [.ref a_q1_sizes, .ref a_q1_cites, .int v_q1_notes, .int v_q1_version])), (a_q1_cites, .inl (cJ, 32, .inr (.inl r_q1_cites))), (a_q1_sizes, .inl (cI, 8, .inl r_q1_sizes))] H) _ hS => ?_)
          refine lv_bipush (v := (8)) hx hb dX5_readInto_115 (by decide) ?_
          refine lv_icmp_ge (tgt := 124) hx hb dX5_readInto_117 (by decide) (fun c11 => ?_) (fun c11 => ?_)
          · have hf := pn_ifp c11 hf
            refine lv_iconst (v := (0)) hx hb dX5_readInto_124 (by decide) ?_
            refine lv_istore (lv' := [(6, .int (0 : Int32)), (5, .int s0), (0, .ref a_t), (1, .ref a_q1), (2, .int x2)]) hx hb dX5_readInto_125 hl (by decide) rfl (fun ls hl => ?_)
            refine lv_iload hx hb dX5_readInto_127 (lv_at hl 1 rfl) ?_
            refine lv_if_ne (tgt := 142) hx hb dX5_readInto_129 (by decide) (fun c12 => ?_) (fun c12 => ?_)
            · have hf := pn_ifp c12 hf
              exact jn142 x2 (0 : Int32) v_t_place v_t_sign v_q1_notes v_q1_version r_q1_cites r_q1_sizes H locs ls hf hP hS (lv_sub hl [2, 3, 4, 0] rfl)
            · have hf := pn_ifq c12 hf
              refine lv_iload hx hb dX5_readInto_132 (lv_at hl 0 rfl) ?_
              refine lv_if_ne (tgt := 142) hx hb dX5_readInto_134 (by decide) (fun c13 => ?_) (fun c13 => ?_)
              · have hf := pn_ifp c13 hf
                exact jn142 x2 (0 : Int32) v_t_place v_t_sign v_q1_notes v_q1_version r_q1_cites r_q1_sizes H locs ls hf hP hS (lv_sub hl [2, 3, 4, 0] rfl)
              · have hf := pn_ifq c13 hf
                exact kx137 v_t_place v_t_sign v_q1_notes v_q1_version r_q1_cites r_q1_sizes H locs ls (Option.some.inj hf).symm hP hS (lv_sub hl [2] rfl)
          · have hf := pn_ifn c11 hf
            refine lv_iconst (v := (1)) hx hb dX5_readInto_120 (by decide) ?_
            refine lv_goto (tgt := 125) hx hb dX5_readInto_121 (by decide) ?_
            refine lv_istore (lv' := [(6, .int (1 : Int32)), (5, .int s0), (0, .ref a_t), (1, .ref a_q1), (2, .int x2)]) hx hb dX5_readInto_125 hl (by decide) rfl (fun ls hl => ?_)
            refine lv_iload hx hb dX5_readInto_127 (lv_at hl 1 rfl) ?_
            refine lv_if_ne (tgt := 142) hx hb dX5_readInto_129 (by decide) (fun c14 => ?_) (fun c14 => ?_)
            · have hf := pn_ifp c14 hf
              exact jn142 x2 (1 : Int32) v_t_place v_t_sign v_q1_notes v_q1_version r_q1_cites r_q1_sizes H locs ls hf hP hS (lv_sub hl [2, 3, 4, 0] rfl)
            · have hf := pn_ifq c14 hf
              refine lv_iload hx hb dX5_readInto_132 (lv_at hl 0 rfl) ?_
              refine lv_if_ne (tgt := 142) hx hb dX5_readInto_134 (by decide) (fun c15 => ?_) (fun c15 => ?_)
              · have hf := pn_ifp c15 hf
                exact jn142 x2 (1 : Int32) v_t_place v_t_sign v_q1_notes v_q1_version r_q1_cites r_q1_sizes H locs ls hf hP hS (lv_sub hl [2, 3, 4, 0] rfl)
              · have hf := pn_ifq c15 hf
                exact kx137 v_t_place v_t_sign v_q1_notes v_q1_version r_q1_cites r_q1_sizes H locs ls (Option.some.inj hf).symm hP hS (lv_sub hl [2] rfl)
      refine lv_iload_n hx hb dX5_readInto_29 rfl (lv_at hl 2 rfl) ?_
      refine lv_bipush (v := (32)) hx hb dX5_readInto_30 (by decide) ?_
      refine lv_icmp_ge (tgt := 161) hx hb dX5_readInto_32 (by decide) (fun c16 => ?_) (fun c16 => ?_)
      · have hf := pn_ifp c16 hf
        exact kx161 v_t_place v_t_sign v_q1_notes v_q1_version r_q1_cites r_q1_sizes H locs ls (Option.some.inj hf).symm hP hS (lv_sub hl [0] rfl)
      · have hf := pn_ifn c16 hf
        refine lv_aload_n hx hb dX5_readInto_35 rfl (lv_at hl 0 rfl) ?_
        obtain ⟨ru17, v_t_place_u17, v_t_sign_u17, hu17, hf⟩ := pn_bd3_at hf
        refine pn_calll [0, 1] (va_runV (As := []) (rest := []) ⟨hx, hb, hml, hown, hts⟩ (c_X5_readCite l D cI cJ cZ a_t a_t_signs H.size v_t_length v_t_place v_t_sign r_t_signs ru17 v_t_place_u17 v_t_sign_u17 hu17) (cwV 0 hts gX5_readInto_X5_readCite rfl rfl rfl hdX5_readCite ⟨Nat.le_of_ble_eq_true rfl, Nat.le_of_ble_eq_true rfl⟩) (pn_preV [0, 1] hP (hD.addr rfl) hK rfl rfl (q0 := 0) (ci := 4) rfl rfl) rfl rfl hl.1 rfl (lv_room (Nat.le_of_ble_eq_true rfl)) dX5_readInto_36 ⟨Nat.zero_le _, Nat.zero_le _⟩) hP (hD.addr rfl) hS hA rfl rfl rfl (fun H locs (hP : va_P D vwCl [(a_t, .inr (4, [.ref a_t_signs, .int v_t_length, .int v_t_place_u17, .int v_t_sign_u17])), (a_t_signs, .inl (cI, 120, .inl r_t_signs)), (a_q1, .inr (0, [.ref a_q1_sizes, .ref a_q1_cites, .int v_q1_notes, .int v_q1_version])), (a_q1_cites, .inl (cJ, 32, .inr (.inl r_q1_cites))), (a_q1_sizes, .inl (cI, 8, .inl r_q1_sizes))] H) _ hS => ?_)
        refine lv_lstore_n (lv' := [(3, .long ru17), (0, .ref a_t), (1, .ref a_q1), (2, .int x2)]) hx hb dX5_readInto_39 rfl hl (by decide) rfl (fun ls hl => ?_)
        refine lv_lload_n hx hb dX5_readInto_40 rfl (lv_at hl 0 rfl) ?_
        refine lv_ldc2 hx hb hown kl_37 dX5_readInto_41 ?_
        refine W.lcmp hx hb dX5_readInto_44 ?_
        refine lv_if_ne (tgt := 53) hx hb dX5_readInto_45 (by decide) (fun c18 => ?_) (fun c18 => ?_)
        · have hf := pn_ifp c18 hf
          refine lv_aload_n hx hb dX5_readInto_53 rfl (lv_at hl 2 rfl) ?_
          refine lv_lload_n hx hb dX5_readInto_54 rfl (lv_at hl 0 rfl) ?_
          obtain ⟨v_q1_version_u19, r_q1_cites_u19, r_q1_sizes_u19, hu19, hf⟩ := pn_bd3_at hf
          refine pn_callv [2, 3, 4] (va_runV (As := [.long ru17]) (rest := []) ⟨hx, hb, hml, hown, hts⟩ (c_X1_addCite l D cI cJ cZ a_q1 a_q1_sizes a_q1_cites H.size v_q1_notes v_q1_version r_q1_cites r_q1_sizes ru17 v_q1_version_u19 r_q1_cites_u19 r_q1_sizes_u19 hu19) (cwV 1 hts gX5_readInto_X1_addCite rfl rfl rfl hdX1_addCite ⟨Nat.le_of_ble_eq_true rfl, Nat.le_of_ble_eq_true rfl⟩) (pn_preV [2, 3, 4] hP (hD.addr rfl) hK rfl rfl (q0 := 2) (ci := 0) rfl rfl) rfl rfl hl.1 rfl (lv_room (Nat.le_of_ble_eq_true rfl)) dX5_readInto_55 ⟨Nat.zero_le _, Nat.zero_le _⟩) hP (hD.addr rfl) hS hA rfl rfl rfl (fun H locs (hP : va_P D vwCl [(a_t, .inr (4, [.ref a_t_signs, .int v_t_length, .int v_t_place_u17, .int v_t_sign_u17])), (a_t_signs, .inl (cI, 120, .inl r_t_signs)), (a_q1, .inr (0, [.ref a_q1_sizes, .ref a_q1_cites, .int v_q1_notes, .int v_q1_version_u19])), (a_q1_cites, .inl (cJ, 32, .inr (.inl r_q1_cites_u19))), (a_q1_sizes, .inl (cI, 8, .inl r_q1_sizes_u19))] H) _ hS => ?_)
          refine lv_aload_n hx hb dX5_readInto_58 rfl (lv_at hl 1 rfl) ?_
          refine va_get (D := D) (ci := 4) (v := .int v_t_place_u17) (C := RX5) (T := TX5) (N := 4) hx hb hts hinX5 hown hK.1 hP 0 rfl rfl 2 (by decide) fl_19 (fun _ h9 => h9) rfl dX5_readInto_59 ?_
          refine lv_aload_n hx hb dX5_readInto_62 rfl (lv_at hl 1 rfl) ?_
          refine va_get (D := D) (ci := 4) (v := .int v_t_length) (C := RX5) (T := TX5) (N := 4) hx hb hts hinX5 hown hK.1 hP 0 rfl rfl 1 (by decide) fl_15 (fun _ h9 => h9) rfl dX5_readInto_63 ?_
          refine lv_icmp_ne (tgt := 72) hx hb dX5_readInto_66 (by decide) (fun c20 => ?_) (fun c20 => ?_)
          · have hf := pn_ifp c20 hf
            refine lv_aload_n hx hb dX5_readInto_72 rfl (lv_at hl 1 rfl) ?_
            refine va_get (D := D) (ci := 4) (v := .int v_t_sign_u17) (C := RX5) (T := TX5) (N := 4) hx hb hts hinX5 hown hK.1 hP 0 rfl rfl 3 (by decide) fl_43 (fun _ h9 => h9) rfl dX5_readInto_73 ?_
            refine lv_bipush (v := (44)) hx hb dX5_readInto_76 (by decide) ?_
            refine lv_icmp_ne (tgt := 99) hx hb dX5_readInto_78 (by decide) (fun c21 => ?_) (fun c21 => ?_)
            · have hf := pn_ifp c21 hf
              refine lv_iconst (v := (0)) hx hb dX5_readInto_99 (by decide) ?_
              exact jn100 x2 (0 : Int32) v_t_place_u17 v_t_sign_u17 v_q1_notes v_q1_version_u19 r_q1_cites_u19 r_q1_sizes_u19 H locs ls hf hP hS (lv_sub hl [1, 2, 3] rfl)
            · have hf := pn_ifq c21 hf
              refine lv_aload_n hx hb dX5_readInto_81 rfl (lv_at hl 2 rfl) ?_
              refine lv_aload_n hx hb dX5_readInto_82 rfl (lv_at hl 2 rfl) ?_
              obtain ⟨ru22, hu22, hf⟩ := pn_bd1_at hf
              refine pn_calli [2] (va_runV (As := []) (rest := [.ref a_q1]) ⟨hx, hb, hml, hown, hts⟩ (c_X1_notes l D cI cJ cZ a_q1 a_q1_sizes a_q1_cites H.size v_q1_version_u19 v_q1_notes ru22 hu22) (cwV 0 hts gX5_readInto_X1_notes rfl rfl rfl hdX1_notes ⟨Nat.le_of_ble_eq_true rfl, Nat.le_of_ble_eq_true rfl⟩) (pn_preV [2] hP (hD.addr rfl) hK rfl rfl (q0 := 2) (ci := 0) rfl rfl) rfl rfl hl.1 rfl (lv_room (Nat.le_of_ble_eq_true rfl)) dX5_readInto_83 ⟨Nat.zero_le _, Nat.zero_le _⟩) hP (hD.addr rfl) hS hA rfl rfl rfl (fun H locs (hP : va_P D vwCl [(a_t, .inr (4, [.ref a_t_signs, .int v_t_length, .int v_t_place_u17, .int v_t_sign_u17])), (a_t_signs, .inl (cI, 120, .inl r_t_signs)), (a_q1, .inr (0, [.ref a_q1_sizes, .ref a_q1_cites, .int v_q1_notes, .int v_q1_version_u19])), (a_q1_cites, .inl (cJ, 32, .inr (.inl r_q1_cites_u19))), (a_q1_sizes, .inl (cI, 8, .inl r_q1_sizes_u19))] H) _ hS => ?_)
              refine lv_iconst (v := (1)) hx hb dX5_readInto_86 (by decide) ?_
              refine lv_isub hx hb dX5_readInto_87 ?_
              obtain ⟨ru23, hu23, hf⟩ := pn_bd1_at hf
              refine pn_calli [2, 4] (va_runV (As := [.int (ru22 - (1 : Int32))]) (rest := []) ⟨hx, hb, hml, hown, hts⟩ (c_X1_size l D cI cJ cZ a_q1 a_q1_sizes a_q1_cites H.size v_q1_version_u19 v_q1_notes r_q1_sizes_u19 (ru22 - (1 : Int32)) ru23 hu23) (cwV 1 hts gX5_readInto_X1_size rfl rfl rfl hdX1_size ⟨Nat.le_of_ble_eq_true rfl, Nat.le_of_ble_eq_true rfl⟩) (pn_preV [2, 4] hP (hD.addr rfl) hK rfl rfl (q0 := 2) (ci := 0) rfl rfl) rfl rfl hl.1 rfl (lv_room (Nat.le_of_ble_eq_true rfl)) dX5_readInto_88 ⟨Nat.zero_le _, Nat.zero_le _⟩) hP (hD.addr rfl) hS hA rfl rfl rfl (fun H locs (hP : va_P D vwCl [(a_t, .inr (4, [.ref a_t_signs, .int v_t_length, .int v_t_place_u17, .int v_t_sign_u17])), (a_t_signs, .inl (cI, 120, .inl r_t_signs)), (a_q1, .inr (0, [.ref a_q1_sizes, .ref a_q1_cites, .int v_q1_notes, .int v_q1_version_u19])), (a_q1_cites, .inl (cJ, 32, .inr (.inl r_q1_cites_u19))), (a_q1_sizes, .inl (cI, 8, .inl r_q1_sizes_u19))] H) _ hS => ?_)
              refine lv_iconst (v := (4)) hx hb dX5_readInto_91 (by decide) ?_
              refine lv_icmp_ge (tgt := 99) hx hb dX5_readInto_92 (by decide) (fun c24 => ?_) (fun c24 => ?_)
              · have hf := pn_ifp c24 hf
                refine lv_iconst (v := (0)) hx hb dX5_readInto_99 (by decide) ?_
                exact jn100 x2 (0 : Int32) v_t_place_u17 v_t_sign_u17 v_q1_notes v_q1_version_u19 r_q1_cites_u19 r_q1_sizes_u19 H locs ls hf hP hS (lv_sub hl [1, 2, 3] rfl)
              · have hf := pn_ifn c24 hf
                refine lv_iconst (v := (1)) hx hb dX5_readInto_95 (by decide) ?_
                refine lv_goto (tgt := 100) hx hb dX5_readInto_96 (by decide) ?_
                exact jn100 x2 (1 : Int32) v_t_place_u17 v_t_sign_u17 v_q1_notes v_q1_version_u19 r_q1_cites_u19 r_q1_sizes_u19 H locs ls hf hP hS (lv_sub hl [1, 2, 3] rfl)
          · have hf := pn_ifq c20 hf
            exact kx69 v_t_place_u17 v_t_sign_u17 v_q1_notes v_q1_version_u19 r_q1_cites_u19 r_q1_sizes_u19 H locs ls (Option.some.inj hf).symm hP hS (lv_sub hl [] rfl)
        · have hf := pn_ifq c18 hf
          exact kx48 v_t_place_u17 v_t_sign_u17 v_q1_notes v_q1_version r_q1_cites r_q1_sizes H locs ls (Option.some.inj hf).symm hP hS (lv_sub hl [1] rfl)
  refine lv_aload_n hx hb dX5_readInto_0 rfl (lv_at hl 0 rfl) ?_
  refine lv_iconst (v := (-1)) hx hb dX5_readInto_1 (by decide) ?_
  refine va_put (D := D) (ci := 4) (v := .int (-1 : Int32)) (ty := .int) (C := RX5) (T := TX5) (N := 4) hx hb hts hinX5 tyX5 tyX5_ok nmX5 hown hK.1 hP (hD.addr rfl) hS 0 rfl rfl 2 (by decide) fl_19 (fun _ h9 => h9) rfl (by decide +kernel) rfl rfl (Nat.le_of_ble_eq_true rfl) dX5_readInto_2 (fun H locs (hP : va_P D vwCl [(a_t, .inr (4, [.ref a_t_signs, .int v_t_length, .int ((-1 : Int32)), .int v_t_sign])), (a_t_signs, .inl (cI, 120, .inl r_t_signs)), (a_q1, .inr (0, [.ref a_q1_sizes, .ref a_q1_cites, .int v_q1_notes, .int v_q1_version])), (a_q1_cites, .inl (cJ, 32, .inr (.inl r_q1_cites))), (a_q1_sizes, .inl (cI, 8, .inl r_q1_sizes))] H) _ hS => ?_)
  refine lv_aload_n hx hb dX5_readInto_5 rfl (lv_at hl 0 rfl) ?_
  obtain ⟨v_t_place_u25, v_t_sign_u25, hu25, hf⟩ := pn_bd2_at hf
  refine pn_callv [0, 1] (va_runV (As := []) (rest := []) ⟨hx, hb, hml, hown, hts⟩ (c_X5_advance l D cI cJ cZ a_t a_t_signs H.size v_t_length (-1 : Int32) v_t_sign r_t_signs v_t_place_u25 v_t_sign_u25 hu25) (cwV 0 hts gX5_readInto_X5_advance rfl rfl rfl hdX5_advance ⟨Nat.le_of_ble_eq_true rfl, Nat.le_of_ble_eq_true rfl⟩) (pn_preV [0, 1] hP (hD.addr rfl) hK rfl rfl (q0 := 0) (ci := 4) rfl rfl) rfl rfl hl.1 rfl (lv_room (Nat.le_of_ble_eq_true rfl)) dX5_readInto_6 ⟨Nat.zero_le _, Nat.zero_le _⟩) hP (hD.addr rfl) hS hA rfl rfl rfl (fun H locs (hP : va_P D vwCl [(a_t, .inr (4, [.ref a_t_signs, .int v_t_length, .int v_t_place_u25, .int v_t_sign_u25])), (a_t_signs, .inl (cI, 120, .inl r_t_signs)), (a_q1, .inr (0, [.ref a_q1_sizes, .ref a_q1_cites, .int v_q1_notes, .int v_q1_version])), (a_q1_cites, .inl (cJ, 32, .inr (.inl r_q1_cites))), (a_q1_sizes, .inl (cI, 8, .inl r_q1_sizes))] H) _ hS => ?_)
  refine lv_aload_n hx hb dX5_readInto_9 rfl (lv_at hl 1 rfl) ?_
  obtain ⟨v_q1_notes_u26, v_q1_version_u26, hu26, hf⟩ := pn_bd2_at hf
  refine pn_callv [2] (va_runV (As := []) (rest := []) ⟨hx, hb, hml, hown, hts⟩ (c_X1_clear l D cI cJ cZ a_q1 a_q1_sizes a_q1_cites H.size v_q1_notes v_q1_version v_q1_notes_u26 v_q1_version_u26 hu26) (cwV 0 hts gX5_readInto_X1_clear rfl rfl rfl hdX1_clear ⟨Nat.le_of_ble_eq_true rfl, Nat.le_of_ble_eq_true rfl⟩) (pn_preV [2] hP (hD.addr rfl) hK rfl rfl (q0 := 2) (ci := 0) rfl rfl) rfl rfl hl.1 rfl (lv_room (Nat.le_of_ble_eq_true rfl)) dX5_readInto_10 ⟨Nat.zero_le _, Nat.zero_le _⟩) hP (hD.addr rfl) hS hA rfl rfl rfl (fun H locs (hP : va_P D vwCl [(a_t, .inr (4, [.ref a_t_signs, .int v_t_length, .int v_t_place_u25, .int v_t_sign_u25])), (a_t_signs, .inl (cI, 120, .inl r_t_signs)), (a_q1, .inr (0, [.ref a_q1_sizes, .ref a_q1_cites, .int v_q1_notes_u26, .int v_q1_version_u26])), (a_q1_cites, .inl (cJ, 32, .inr (.inl r_q1_cites))), (a_q1_sizes, .inl (cI, 8, .inl r_q1_sizes))] H) _ hS => ?_)
  refine lv_aload_n hx hb dX5_readInto_13 rfl (lv_at hl 0 rfl) ?_
  refine va_get (D := D) (ci := 4) (v := .int v_t_length) (C := RX5) (T := TX5) (N := 4) hx hb hts hinX5 hown hK.1 hP 0 rfl rfl 1 (by decide) fl_15 (fun _ h9 => h9) rfl dX5_readInto_14 ?_
  refine lv_if_ne (tgt := 23) hx hb dX5_readInto_17 (by decide) (fun c27 => ?_) (fun c27 => ?_)
  · have hf := pn_ifp c27 hf
    refine lv_aload_n hx hb dX5_readInto_23 rfl (lv_at hl 1 rfl) ?_
    obtain ⟨v_q1_notes_u28, v_q1_version_u28, r_q1_sizes_u28, hu28, hf⟩ := pn_bd3_at hf
    refine pn_callv [2, 4] (va_runV (As := []) (rest := []) ⟨hx, hb, hml, hown, hts⟩ (c_X1_openNote l D cI cJ cZ a_q1 a_q1_sizes a_q1_cites H.size v_q1_notes_u26 v_q1_version_u26 r_q1_sizes v_q1_notes_u28 v_q1_version_u28 r_q1_sizes_u28 hu28) (cwV 0 hts gX5_readInto_X1_openNote rfl rfl rfl hdX1_openNote ⟨Nat.le_of_ble_eq_true rfl, Nat.le_of_ble_eq_true rfl⟩) (pn_preV [2, 4] hP (hD.addr rfl) hK rfl rfl (q0 := 2) (ci := 0) rfl rfl) rfl rfl hl.1 rfl (lv_room (Nat.le_of_ble_eq_true rfl)) dX5_readInto_24 ⟨Nat.zero_le _, Nat.zero_le _⟩) hP (hD.addr rfl) hS hA rfl rfl rfl (fun H locs (hP : va_P D vwCl [(a_t, .inr (4, [.ref a_t_signs, .int v_t_length, .int v_t_place_u25, .int v_t_sign_u25])), (a_t_signs, .inl (cI, 120, .inl r_t_signs)), (a_q1, .inr (0, [.ref a_q1_sizes, .ref a_q1_cites, .int v_q1_notes_u28, .int v_q1_version_u28])), (a_q1_cites, .inl (cJ, 32, .inr (.inl r_q1_cites))), (a_q1_sizes, .inl (cI, 8, .inl r_q1_sizes_u28))] H) _ hS => ?_)
    refine lv_iconst (v := (0)) hx hb dX5_readInto_27 (by decide) ?_
    refine lv_istore_n (lv' := [(2, .int (0 : Int32)), (0, .ref a_t), (1, .ref a_q1)]) hx hb dX5_readInto_28 rfl hl (by decide) rfl (fun ls hl => ?_)
    obtain ⟨X29, hX29, hf⟩ := pn_bd1_at hf
    refine lp29 N (0 : Int32) v_t_place_u25 v_t_sign_u25 v_q1_notes_u28 v_q1_version_u28 r_q1_cites r_q1_sizes_u28 X29 H locs ls hX29 hP hS (lv_sub hl [1, 2, 0] rfl) ?_ ?_ ?_ ?_
    · intro v_t_place_w29 v_t_sign_w29 v_q1_notes_w29 v_q1_version_w29 r_q1_cites_w29 r_q1_sizes_w29 H locs ls eX hP hS hl
      rw [eX] at hf
      have hf := pn_s2_l hf
      have hf := pn_u6_at hf
      refine lv_aload_n hx hb dX5_readInto_48 rfl (lv_at hl 0 rfl) ?_
      refine va_get (D := D) (ci := 4) (v := .int v_t_place_w29) (C := RX5) (T := TX5) (N := 4) hx hb hts hinX5 hown hK.1 hP 0 rfl rfl 2 (by decide) fl_19 (fun _ h9 => h9) rfl dX5_readInto_49 ?_
      cases hf
      rw [hQ]
      exact pn_reti hx hb hr hlocks hP hS rfl dX5_readInto_52
    · intro v_t_place_w30 v_t_sign_w30 v_q1_notes_w30 v_q1_version_w30 r_q1_cites_w30 r_q1_sizes_w30 H locs ls eX hP hS hl
      rw [eX] at hf
      have hf := pn_s2_r hf
      have hf := pn_s2_l hf
      have hf := pn_u6_at hf
      refine lv_bipush (v := (-9)) hx hb dX5_readInto_69 (by decide) ?_
      cases hf
      rw [hQ]
      exact pn_reti hx hb hr hlocks hP hS rfl dX5_readInto_71
    · intro v_t_place_w31 v_t_sign_w31 v_q1_notes_w31 v_q1_version_w31 r_q1_cites_w31 r_q1_sizes_w31 H locs ls eX hP hS hl
      rw [eX] at hf
      have hf := pn_s2_r hf
      have hf := pn_s2_r hf
      have hf := pn_s2_l hf
      have hf := pn_u6_at hf
      refine lv_aload_n hx hb dX5_readInto_137 rfl (lv_at hl 0 rfl) ?_
      refine va_get (D := D) (ci := 4) (v := .int v_t_place_w31) (C := RX5) (T := TX5) (N := 4) hx hb hts hinX5 hown hK.1 hP 0 rfl rfl 2 (by decide) fl_19 (fun _ h9 => h9) rfl dX5_readInto_138 ?_
      cases hf
      rw [hQ]
      exact pn_reti hx hb hr hlocks hP hS rfl dX5_readInto_141
    · intro v_t_place_w32 v_t_sign_w32 v_q1_notes_w32 v_q1_version_w32 r_q1_cites_w32 r_q1_sizes_w32 H locs ls eX hP hS hl
      rw [eX] at hf
      have hf := pn_s2_r hf
      have hf := pn_s2_r hf
      have hf := pn_s2_r hf
      have hf := pn_u6_at hf
      refine lv_aload_n hx hb dX5_readInto_161 rfl (lv_at hl 0 rfl) ?_
      refine va_get (D := D) (ci := 4) (v := .int v_t_place_w32) (C := RX5) (T := TX5) (N := 4) hx hb hts hinX5 hown hK.1 hP 0 rfl rfl 2 (by decide) fl_19 (fun _ h9 => h9) rfl dX5_readInto_162 ?_
      cases hf
      rw [hQ]
      exact pn_reti hx hb hr hlocks hP hS rfl dX5_readInto_165
  · have hf := pn_ifq c27 hf
    refine lv_bipush (v := (-9)) hx hb dX5_readInto_20 (by decide) ?_
    cases hf
    rw [hQ]
    exact pn_reti hx hb hr hlocks hP hS rfl dX5_readInto_22
