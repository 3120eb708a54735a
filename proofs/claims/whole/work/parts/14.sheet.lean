theorem hdX2_length : yX2_length.cls = RX2 ∧ yX2_length.cls ≠ "java/lang/invoke/MethodHandle" ∧ yX2_length.cls ≠ "java/lang/invoke/VarHandle" ∧ (parseMethodDescriptor yX2_length.desc).map (fun d => d.parameters.length) = some 0 := by decide +kernel
theorem hdX2_signAt : yX2_signAt.cls = RX2 ∧ yX2_signAt.cls ≠ "java/lang/invoke/MethodHandle" ∧ yX2_signAt.cls ≠ "java/lang/invoke/VarHandle" ∧ (parseMethodDescriptor yX2_signAt.desc).map (fun d => d.parameters.length) = some 1 := by decide +kernel
theorem hdX2_clear : yX2_clear.cls = RX2 ∧ yX2_clear.cls ≠ "java/lang/invoke/MethodHandle" ∧ yX2_clear.cls ≠ "java/lang/invoke/VarHandle" ∧ (parseMethodDescriptor yX2_clear.desc).map (fun d => d.parameters.length) = some 0 := by decide +kernel
theorem hdX2_addSign : yX2_addSign.cls = RX2 ∧ yX2_addSign.cls ≠ "java/lang/invoke/MethodHandle" ∧ yX2_addSign.cls ≠ "java/lang/invoke/VarHandle" ∧ (parseMethodDescriptor yX2_addSign.desc).map (fun d => d.parameters.length) = some 1 := by decide +kernel
theorem hdX2_addPage : yX2_addPage.cls = RX2 ∧ yX2_addPage.cls ≠ "java/lang/invoke/MethodHandle" ∧ yX2_addPage.cls ≠ "java/lang/invoke/VarHandle" ∧ (parseMethodDescriptor yX2_addPage.desc).map (fun d => d.parameters.length) = some 1 := by decide +kernel
theorem hdX2_addReport : yX2_addReport.cls = RX2 ∧ yX2_addReport.cls ≠ "java/lang/invoke/MethodHandle" ∧ yX2_addReport.cls ≠ "java/lang/invoke/VarHandle" ∧ (parseMethodDescriptor yX2_addReport.desc).map (fun d => d.parameters.length) = some 1 := by decide +kernel
theorem hdX2_addFull : yX2_addFull.cls = RX2 ∧ yX2_addFull.cls ≠ "java/lang/invoke/MethodHandle" ∧ yX2_addFull.cls ≠ "java/lang/invoke/VarHandle" ∧ (parseMethodDescriptor yX2_addFull.desc).map (fun d => d.parameters.length) = some 1 := by decide +kernel
theorem hdX2_addCite : yX2_addCite.cls = RX2 ∧ yX2_addCite.cls ≠ "java/lang/invoke/MethodHandle" ∧ yX2_addCite.cls ≠ "java/lang/invoke/VarHandle" ∧ (parseMethodDescriptor yX2_addCite.desc).map (fun d => d.parameters.length) = some 1 := by decide +kernel
def f_X2_length (v_t_length : Int32) : Option (Int32) :=
  some v_t_length
set_option maxHeartbeats 4000000 in
set_option maxRecDepth 100000 in
theorem c_X2_length (l : Launch) (D : va_G) (cI cJ cZ : ClassId) (a_t a_t_signs : Nat) (sz : Nat) (v_t_length : Int32) (rR : Int32) (hf : f_X2_length v_t_length = some rR) : Met l yX2_length wsX2_length { frames := 0, cells := 0, slots := 0, locals := 0 } (pn_Pc D cI cJ cZ [.ref a_t] [(a_t, .inr (1, [.ref a_t_signs, .int v_t_length]))] sz) (pn_Qi D rR [(a_t, .inr (1, [.ref a_t_signs, .int v_t_length]))] (va_A [(a_t, .inr (1, [.ref a_t_signs, .int v_t_length]))] sz)) 0 0 (va_A [(a_t, .inr (1, [.ref a_t_signs, .int v_t_length]))] sz) := by
  refine pn_entry (cc := cX2_length) (maxL := 1) (ret := (some .int)) (Qf := pn_Qi D rR [(a_t, .inr (1, [.ref a_t_signs, .int v_t_length]))]) (by decide) rfl (Nat.le_of_ble_eq_true rfl) ?_
  intro p e s m args below meth c A ls H locs Qm hQ hx hb hr hlocks hml hown hts hK hP hD hA hS hl
  have hl : lv_has ls 1 [(0, .ref a_t)] := hl
  have hinX2 : ∀ w ∈ wsX20, w ∈ wsX2_length := by decide +kernel
  have fl_15 := hts (.fieldLink RX2 15 "PointingNotes$Sheet" "length" "I") (by decide +kernel)
  rw [f_X2_length] at hf
  refine lv_aload_n hx hb dX2_length_0 rfl (lv_at hl 0 rfl) ?_
  refine va_get (D := D) (ci := 1) (v := .int v_t_length) (C := RX2) (T := TX2) (N := 2) hx hb hts hinX2 hown hK.1 hP 0 rfl rfl 1 (by decide) fl_15 (fun _ h9 => h9) rfl dX2_length_1 ?_
  cases hf
  rw [hQ]
  exact pn_reti hx hb hr hlocks hP hS rfl dX2_length_4
def f_X2_signAt (v_t_length : Int32) (r_t_signs : Nat → Int32) (p1 : Int32) : Option (Int32) :=
  if p1 < 0 then
  some (-9 : Int32)
  else
  if v_t_length ≤ p1 then
  some (-9 : Int32)
  else
  pn_rd 512 r_t_signs p1 fun w3 =>
  some w3
set_option maxHeartbeats 4000000 in
set_option maxRecDepth 100000 in
theorem c_X2_signAt (l : Launch) (D : va_G) (cI cJ cZ : ClassId) (a_t a_t_signs : Nat) (sz : Nat) (v_t_length : Int32) (r_t_signs : Nat → Int32) (p1 : Int32) (rR : Int32) (hf : f_X2_signAt v_t_length r_t_signs p1 = some rR) : Met l yX2_signAt wsX2_signAt { frames := 0, cells := 0, slots := 0, locals := 0 } (pn_Pc D cI cJ cZ [.ref a_t, .int p1] [(a_t, .inr (1, [.ref a_t_signs, .int v_t_length])), (a_t_signs, .inl (cI, 512, .inl r_t_signs))] sz) (pn_Qi D rR [(a_t, .inr (1, [.ref a_t_signs, .int v_t_length])), (a_t_signs, .inl (cI, 512, .inl r_t_signs))] (va_A [(a_t, .inr (1, [.ref a_t_signs, .int v_t_length])), (a_t_signs, .inl (cI, 512, .inl r_t_signs))] sz)) 0 0 (va_A [(a_t, .inr (1, [.ref a_t_signs, .int v_t_length])), (a_t_signs, .inl (cI, 512, .inl r_t_signs))] sz) := by
  refine pn_entry (cc := cX2_signAt) (maxL := 2) (ret := (some .int)) (Qf := pn_Qi D rR [(a_t, .inr (1, [.ref a_t_signs, .int v_t_length])), (a_t_signs, .inl (cI, 512, .inl r_t_signs))]) (by decide) rfl (Nat.le_of_ble_eq_true rfl) ?_
  intro p e s m args below meth c A ls H locs Qm hQ hx hb hr hlocks hml hown hts hK hP hD hA hS hl
  have hl : lv_has ls 2 [(0, .ref a_t), (1, .int p1)] := hl
  have hinX2 : ∀ w ∈ wsX20, w ∈ wsX2_signAt := by decide +kernel
  have fl_9 := hts (.fieldLink RX2 9 "PointingNotes$Sheet" "signs" "[I") (by decide +kernel)
  have fl_15 := hts (.fieldLink RX2 15 "PointingNotes$Sheet" "length" "I") (by decide +kernel)
  rw [f_X2_signAt] at hf
  refine lv_iload_n hx hb dX2_signAt_0 rfl (lv_at hl 1 rfl) ?_
  refine lv_if_lt (tgt := 21) hx hb dX2_signAt_1 (by decide) (fun c1 => ?_) (fun c1 => ?_)
  · have hf := pn_ifp c1 hf
    refine lv_bipush (v := (-9)) hx hb dX2_signAt_21 (by decide) ?_
    cases hf
    rw [hQ]
    exact pn_reti hx hb hr hlocks hP hS rfl dX2_signAt_23
  · have hf := pn_ifn c1 hf
    refine lv_iload_n hx hb dX2_signAt_4 rfl (lv_at hl 1 rfl) ?_
    refine lv_aload_n hx hb dX2_signAt_5 rfl (lv_at hl 0 rfl) ?_
    refine va_get (D := D) (ci := 1) (v := .int v_t_length) (C := RX2) (T := TX2) (N := 2) hx hb hts hinX2 hown hK.1 hP 0 rfl rfl 1 (by decide) fl_15 (fun _ h9 => h9) rfl dX2_signAt_6 ?_
    refine lv_icmp_ge (tgt := 21) hx hb dX2_signAt_9 (by decide) (fun c2 => ?_) (fun c2 => ?_)
    · have hf := pn_ifp c2 hf
      refine lv_bipush (v := (-9)) hx hb dX2_signAt_21 (by decide) ?_
      cases hf
      rw [hQ]
      exact pn_reti hx hb hr hlocks hP hS rfl dX2_signAt_23
    · have hf := pn_ifn c2 hf
      refine lv_aload_n hx hb dX2_signAt_12 rfl (lv_at hl 0 rfl) ?_
      refine va_get (D := D) (ci := 1) (v := .ref a_t_signs) (C := RX2) (T := TX2) (N := 2) hx hb hts hinX2 hown hK.1 hP 0 rfl rfl 0 (by decide) fl_9 (fun _ h9 => h9) rfl dX2_signAt_13 ?_
      refine lv_iload_n hx hb dX2_signAt_16 rfl (lv_at hl 1 rfl) ?_
      obtain ⟨hi4, w3, ew3, hf⟩ := pn_rd_at hf
      refine pn_ldI hx hb hK.1 hP 1 0 rfl rfl hi4 ew3 dX2_signAt_17 ?_
      refine lv_goto (tgt := 23) hx hb dX2_signAt_18 (by decide) ?_
      cases hf
      rw [hQ]
      exact pn_reti hx hb hr hlocks hP hS rfl dX2_signAt_23
def f_X2_clear (v_t_length : Int32) : Option (Int32) :=
  some (0 : Int32)
set_option maxHeartbeats 4000000 in
set_option maxRecDepth 100000 in
theorem c_X2_clear (l : Launch) (D : va_G) (cI cJ cZ : ClassId) (a_t a_t_signs : Nat) (sz : Nat) (v_t_length : Int32) (o_t_length : Int32) (hf : f_X2_clear v_t_length = some o_t_length) : Met l yX2_clear wsX2_clear { frames := 0, cells := 0, slots := 0, locals := 0 } (pn_Pc D cI cJ cZ [.ref a_t] [(a_t, .inr (1, [.ref a_t_signs, .int v_t_length]))] sz) (pn_Qv D [(a_t, .inr (1, [.ref a_t_signs, .int o_t_length]))] (va_A [(a_t, .inr (1, [.ref a_t_signs, .int v_t_length]))] sz)) 0 0 (va_A [(a_t, .inr (1, [.ref a_t_signs, .int v_t_length]))] sz) := by
  refine pn_entry (cc := cX2_clear) (maxL := 1) (ret := none) (Qf := pn_Qv D [(a_t, .inr (1, [.ref a_t_signs, .int o_t_length]))]) (by decide) rfl (Nat.le_of_ble_eq_true rfl) ?_
  intro p e s m args below meth c A ls H locs Qm hQ hx hb hr hlocks hml hown hts hK hP hD hA hS hl
  have hl : lv_has ls 1 [(0, .ref a_t)] := hl
  have hinX2 : ∀ w ∈ wsX20, w ∈ wsX2_clear := by decide +kernel
  have fl_15 := hts (.fieldLink RX2 15 "PointingNotes$Sheet" "length" "I") (by decide +kernel)
  rw [f_X2_clear] at hf
  refine lv_aload_n hx hb dX2_clear_0 rfl (lv_at hl 0 rfl) ?_
  refine lv_iconst (v := (0)) hx hb dX2_clear_1 (by decide) ?_
  refine va_put (D := D) (ci := 1) (v := .int (0 : Int32)) (ty := .int) (C := RX2) (T := TX2) (N := 2) hx hb hts hinX2 tyX2 tyX2_ok nmX2 hown hK.1 hP (hD.addr rfl) hS 0 rfl rfl 1 (by decide) fl_15 (fun _ h9 => h9) rfl (by decide +kernel) rfl rfl (Nat.le_of_ble_eq_true rfl) dX2_clear_2 (fun H locs (hP : va_P D vwCl [(a_t, .inr (1, [.ref a_t_signs, .int ((0 : Int32))]))] H) _ hS => ?_)
  cases hf
  rw [hQ]
  exact pn_retv hx hb hr hlocks hP hS dX2_clear_5
def f_X2_addSign (v_t_length : Int32) (r_t_signs : Nat → Int32) (p1 : Int32) : Option (Int32 × (Nat → Int32)) :=
  if v_t_length < (512 : Int32) then
  pn_wrI 512 r_t_signs v_t_length p1 fun g2 =>
  pn_nm (v_t_length + (1 : Int32)) fun z4 =>
  some (z4, g2)
  else
  some (v_t_length, r_t_signs)
set_option maxHeartbeats 4000000 in
set_option maxRecDepth 100000 in
theorem c_X2_addSign (l : Launch) (D : va_G) (cI cJ cZ : ClassId) (a_t a_t_signs : Nat) (sz : Nat) (v_t_length : Int32) (r_t_signs : Nat → Int32) (p1 : Int32) (o_t_length : Int32) (o_t_signs : Nat → Int32) (hf : f_X2_addSign v_t_length r_t_signs p1 = some (o_t_length, o_t_signs)) : Met l yX2_addSign wsX2_addSign { frames := 0, cells := 0, slots := 0, locals := 0 } (pn_Pc D cI cJ cZ [.ref a_t, .int p1] [(a_t, .inr (1, [.ref a_t_signs, .int v_t_length])), (a_t_signs, .inl (cI, 512, .inl r_t_signs))] sz) (pn_Qv D [(a_t, .inr (1, [.ref a_t_signs, .int o_t_length])), (a_t_signs, .inl (cI, 512, .inl o_t_signs))] (va_A [(a_t, .inr (1, [.ref a_t_signs, .int v_t_length])), (a_t_signs, .inl (cI, 512, .inl r_t_signs))] sz)) 0 0 (va_A [(a_t, .inr (1, [.ref a_t_signs, .int v_t_length])), (a_t_signs, .inl (cI, 512, .inl r_t_signs))] sz) := by
  refine pn_entry (cc := cX2_addSign) (maxL := 2) (ret := none) (Qf := pn_Qv D [(a_t, .inr (1, [.ref a_t_signs, .int o_t_length])), (a_t_signs, .inl (cI, 512, .inl o_t_signs))]) (by decide) rfl (Nat.le_of_ble_eq_true rfl) ?_
  intro p e s m args below meth c A ls H locs Qm hQ hx hb hr hlocks hml hown hts hK hP hD hA hS hl
  have hl : lv_has ls 2 [(0, .ref a_t), (1, .int p1)] := hl
  have hinX2 : ∀ w ∈ wsX20, w ∈ wsX2_addSign := by decide +kernel
  have fl_9 := hts (.fieldLink RX2 9 "PointingNotes$Sheet" "signs" "[I") (by decide +kernel)
  have fl_15 := hts (.fieldLink RX2 15 "PointingNotes$Sheet" "length" "I") (by decide +kernel)
  rw [f_X2_addSign] at hf
  refine lv_aload_n hx hb dX2_addSign_0 rfl (lv_at hl 0 rfl) ?_
  refine va_get (D := D) (ci := 1) (v := .int v_t_length) (C := RX2) (T := TX2) (N := 2) hx hb hts hinX2 hown hK.1 hP 0 rfl rfl 1 (by decide) fl_15 (fun _ h9 => h9) rfl dX2_addSign_1 ?_
  refine lv_sipush (v := (512)) hx hb dX2_addSign_4 (by decide) ?_
  refine lv_icmp_lt (tgt := 11) hx hb dX2_addSign_7 (by decide) (fun c1 => ?_) (fun c1 => ?_)
  · have hf := pn_ifp c1 hf
    refine lv_aload_n hx hb dX2_addSign_11 rfl (lv_at hl 0 rfl) ?_
    refine va_get (D := D) (ci := 1) (v := .ref a_t_signs) (C := RX2) (T := TX2) (N := 2) hx hb hts hinX2 hown hK.1 hP 0 rfl rfl 0 (by decide) fl_9 (fun _ h9 => h9) rfl dX2_addSign_12 ?_
    refine lv_aload_n hx hb dX2_addSign_15 rfl (lv_at hl 0 rfl) ?_
    refine va_get (D := D) (ci := 1) (v := .int v_t_length) (C := RX2) (T := TX2) (N := 2) hx hb hts hinX2 hown hK.1 hP 0 rfl rfl 1 (by decide) fl_15 (fun _ h9 => h9) rfl dX2_addSign_16 ?_
    refine lv_iload_n hx hb dX2_addSign_19 rfl (lv_at hl 1 rfl) ?_
    obtain ⟨hi3, g2, eg2, hf⟩ := pn_wrI_at hf
    refine pn_stI hx hb hK.1 hP (hD.addr rfl) hS 1 0 rfl rfl hi3 eg2 dX2_addSign_20 (fun H locs (hP : va_P D vwCl [(a_t, .inr (1, [.ref a_t_signs, .int v_t_length])), (a_t_signs, .inl (cI, 512, .inl g2))] H) _ hS => ?_)
    refine lv_aload_n hx hb dX2_addSign_21 rfl (lv_at hl 0 rfl) ?_
    refine lv_dup hx hb dX2_addSign_22 rfl ?_
    refine va_get (D := D) (ci := 1) (v := .int v_t_length) (C := RX2) (T := TX2) (N := 2) hx hb hts hinX2 hown hK.1 hP 0 rfl rfl 1 (by decide) fl_15 (fun _ h9 => h9) rfl dX2_addSign_23 ?_
    refine lv_iconst (v := (1)) hx hb dX2_addSign_26 (by decide) ?_
    refine lv_iadd hx hb dX2_addSign_27 ?_
    refine lv_topi (fun z4 ez4 => ?_)
    have hf := pn_nm_at ez4 hf
    refine va_put (D := D) (ci := 1) (v := .int z4) (ty := .int) (C := RX2) (T := TX2) (N := 2) hx hb hts hinX2 tyX2 tyX2_ok nmX2 hown hK.1 hP (hD.addr rfl) hS 0 rfl rfl 1 (by decide) fl_15 (fun _ h9 => h9) rfl (by decide +kernel) rfl rfl (Nat.le_of_ble_eq_true rfl) dX2_addSign_28 (fun H locs (hP : va_P D vwCl [(a_t, .inr (1, [.ref a_t_signs, .int z4])), (a_t_signs, .inl (cI, 512, .inl g2))] H) _ hS => ?_)
    cases hf
    rw [hQ]
    exact pn_retv hx hb hr hlocks hP hS dX2_addSign_31
  · have hf := pn_ifn c1 hf
    cases hf
    rw [hQ]
    exact pn_retv hx hb hr hlocks hP hS dX2_addSign_10
def f_X2_addPage (v_t_length : Int32) (r_t_signs : Nat → Int32) (p1 : Int32) : Option (Int32 × (Nat → Int32)) :=
  pn_bd2 (f_X2_addSign v_t_length r_t_signs ((48 : Int32) + (p1 / (10 : Int32)))) fun v_t_length_u1 r_t_signs_u1 =>
  pn_bd2 (f_X2_addSign v_t_length_u1 r_t_signs_u1 ((48 : Int32) + (p1 - p1 / (10 : Int32) * (10 : Int32)))) fun v_t_length_u2 r_t_signs_u2 =>
  some (v_t_length_u2, r_t_signs_u2)
set_option maxHeartbeats 4000000 in
set_option maxRecDepth 100000 in
theorem c_X2_addPage (l : Launch) (D : va_G) (cI cJ cZ : ClassId) (a_t a_t_signs : Nat) (sz : Nat) (v_t_length : Int32) (r_t_signs : Nat → Int32) (p1 : Int32) (o_t_length : Int32) (o_t_signs : Nat → Int32) (hf : f_X2_addPage v_t_length r_t_signs p1 = some (o_t_length, o_t_signs)) : Met l yX2_addPage wsX2_addPage { frames := 1, cells := 0, slots := 0, locals := 21 } (pn_Pc D cI cJ cZ [.ref a_t, .int p1] [(a_t, .inr (1, [.ref a_t_signs, .int v_t_length])), (a_t_signs, .inl (cI, 512, .inl r_t_signs))] sz) (pn_Qv D [(a_t, .inr (1, [.ref a_t_signs, .int o_t_length])), (a_t_signs, .inl (cI, 512, .inl o_t_signs))] (va_A [(a_t, .inr (1, [.ref a_t_signs, .int v_t_length])), (a_t_signs, .inl (cI, 512, .inl r_t_signs))] sz)) 0 0 (va_A [(a_t, .inr (1, [.ref a_t_signs, .int v_t_length])), (a_t_signs, .inl (cI, 512, .inl r_t_signs))] sz) := by
  refine pn_entry (cc := cX2_addPage) (maxL := 2) (ret := none) (Qf := pn_Qv D [(a_t, .inr (1, [.ref a_t_signs, .int o_t_length])), (a_t_signs, .inl (cI, 512, .inl o_t_signs))]) (by decide) rfl (Nat.le_of_ble_eq_true rfl) ?_
  intro p e s m args below meth c A ls H locs Qm hQ hx hb hr hlocks hml hown hts hK hP hD hA hS hl
  have hl : lv_has ls 2 [(0, .ref a_t), (1, .int p1)] := hl
  rw [f_X2_addPage] at hf
  refine lv_aload_n hx hb dX2_addPage_0 rfl (lv_at hl 0 rfl) ?_
  refine lv_bipush (v := (48)) hx hb dX2_addPage_1 (by decide) ?_
  refine lv_iload_n hx hb dX2_addPage_3 rfl (lv_at hl 1 rfl) ?_
  refine lv_bipush (v := (10)) hx hb dX2_addPage_4 (by decide) ?_
  refine lv_idiv hx hb dX2_addPage_6 (by decide) ?_
  refine lv_iadd hx hb dX2_addPage_7 ?_
  obtain ⟨v_t_length_u1, r_t_signs_u1, hu1, hf⟩ := pn_bd2_at hf
  refine pn_callv [0, 1] (va_runV (As := [.int ((48 : Int32) + (p1 / (10 : Int32)))]) (rest := []) ⟨hx, hb, hml, hown, hts⟩ (c_X2_addSign l D cI cJ cZ a_t a_t_signs H.size v_t_length r_t_signs ((48 : Int32) + (p1 / (10 : Int32))) v_t_length_u1 r_t_signs_u1 hu1) (cwV 1 hts gX2_addPage_X2_addSign rfl rfl rfl hdX2_addSign ⟨Nat.le_of_ble_eq_true rfl, Nat.le_of_ble_eq_true rfl⟩) (pn_preV [0, 1] hP (hD.addr rfl) hK rfl rfl (q0 := 0) (ci := 1) rfl rfl) rfl rfl hl.1 rfl (lv_room (Nat.le_of_ble_eq_true rfl)) dX2_addPage_8 ⟨Nat.zero_le _, Nat.zero_le _⟩) hP (hD.addr rfl) hS hA rfl rfl rfl (fun H locs (hP : va_P D vwCl [(a_t, .inr (1, [.ref a_t_signs, .int v_t_length_u1])), (a_t_signs, .inl (cI, 512, .inl r_t_signs_u1))] H) _ hS => ?_)
  refine lv_aload_n hx hb dX2_addPage_11 rfl (lv_at hl 0 rfl) ?_
  refine lv_bipush (v := (48)) hx hb dX2_addPage_12 (by decide) ?_
  refine lv_iload_n hx hb dX2_addPage_14 rfl (lv_at hl 1 rfl) ?_
  refine lv_bipush (v := (10)) hx hb dX2_addPage_15 (by decide) ?_
  refine lv_irem hx hb dX2_addPage_17 (by decide) ?_
  refine lv_iadd hx hb dX2_addPage_18 ?_
  obtain ⟨v_t_length_u2, r_t_signs_u2, hu2, hf⟩ := pn_bd2_at hf
  refine pn_callv [0, 1] (va_runV (As := [.int ((48 : Int32) + (p1 - p1 / (10 : Int32) * (10 : Int32)))]) (rest := []) ⟨hx, hb, hml, hown, hts⟩ (c_X2_addSign l D cI cJ cZ a_t a_t_signs H.size v_t_length_u1 r_t_signs_u1 ((48 : Int32) + (p1 - p1 / (10 : Int32) * (10 : Int32))) v_t_length_u2 r_t_signs_u2 hu2) (cwV 1 hts gX2_addPage_X2_addSign rfl rfl rfl hdX2_addSign ⟨Nat.le_of_ble_eq_true rfl, Nat.le_of_ble_eq_true rfl⟩) (pn_preV [0, 1] hP (hD.addr rfl) hK rfl rfl (q0 := 0) (ci := 1) rfl rfl) rfl rfl hl.1 rfl (lv_room (Nat.le_of_ble_eq_true rfl)) dX2_addPage_19 ⟨Nat.zero_le _, Nat.zero_le _⟩) hP (hD.addr rfl) hS hA rfl rfl rfl (fun H locs (hP : va_P D vwCl [(a_t, .inr (1, [.ref a_t_signs, .int v_t_length_u2])), (a_t_signs, .inl (cI, 512, .inl r_t_signs_u2))] H) _ hS => ?_)
  cases hf
  rw [hQ]
  exact pn_retv hx hb hr hlocks hP hS dX2_addPage_22
def j_X2_addReport_28 (p1 : Int32) (s1 : Int32) (v_t_length : Int32) (r_t_signs : Nat → Int32) : Option (Int32 × (Nat → Int32)) :=
  pn_bd2 (f_X2_addSign v_t_length r_t_signs s1) fun v_t_length_u1 r_t_signs_u1 =>
  pn_bd2 (f_X2_addPage v_t_length_u1 r_t_signs_u1 (p1 - p1 / (100 : Int32) * (100 : Int32))) fun v_t_length_u2 r_t_signs_u2 =>
  some (v_t_length_u2, r_t_signs_u2)
def f_X2_addReport (v_t_length : Int32) (r_t_signs : Nat → Int32) (p1 : Int32) : Option (Int32 × (Nat → Int32)) :=
  pn_bd2 (f_X2_addSign v_t_length r_t_signs ((48 : Int32) + (p1 / (1000 : Int32)))) fun v_t_length_u3 r_t_signs_u3 =>
  pn_bd1 (f_X6_isOfSeries p1 (0 : Int32)) fun ru4 =>
  if ru4 = 0 then
  j_X2_addReport_28 p1 (115 : Int32) v_t_length_u3 r_t_signs_u3
  else
  j_X2_addReport_28 p1 (114 : Int32) v_t_length_u3 r_t_signs_u3
set_option maxHeartbeats 4000000 in
set_option maxRecDepth 100000 in
theorem c_X2_addReport (l : Launch) (D : va_G) (cI cJ cZ : ClassId) (a_t a_t_signs : Nat) (sz : Nat) (v_t_length : Int32) (r_t_signs : Nat → Int32) (p1 : Int32) (o_t_length : Int32) (o_t_signs : Nat → Int32) (hf : f_X2_addReport v_t_length r_t_signs p1 = some (o_t_length, o_t_signs)) : Met l yX2_addReport wsX2_addReport { frames := 2, cells := 0, slots := 0, locals := 42 } (pn_Pc D cI cJ cZ [.ref a_t, .int p1] [(a_t, .inr (1, [.ref a_t_signs, .int v_t_length])), (a_t_signs, .inl (cI, 512, .inl r_t_signs))] sz) (pn_Qv D [(a_t, .inr (1, [.ref a_t_signs, .int o_t_length])), (a_t_signs, .inl (cI, 512, .inl o_t_signs))] (va_A [(a_t, .inr (1, [.ref a_t_signs, .int v_t_length])), (a_t_signs, .inl (cI, 512, .inl r_t_signs))] sz)) 0 0 (va_A [(a_t, .inr (1, [.ref a_t_signs, .int v_t_length])), (a_t_signs, .inl (cI, 512, .inl r_t_signs))] sz) := by
  refine pn_entry (cc := cX2_addReport) (maxL := 2) (ret := none) (Qf := pn_Qv D [(a_t, .inr (1, [.ref a_t_signs, .int o_t_length])), (a_t_signs, .inl (cI, 512, .inl o_t_signs))]) (by decide) rfl (Nat.le_of_ble_eq_true rfl) ?_
  intro p e s m args below meth c A ls H locs Qm hQ hx hb hr hlocks hml hown hts hK hP hD hA hS hl
  have hl : lv_has ls 2 [(0, .ref a_t), (1, .int p1)] := hl
  have ini_X6_isOfSeries := hts (.initialized RX6) (by decide +kernel)
  have st_X6_isOfSeries := hts (.static yX6_isOfSeries) (by decide +kernel)
  rw [f_X2_addReport] at hf
  have jn28 : ∀ (s1 : Int32) (v_t_length : Int32) (r_t_signs : Nat → Int32) (H : Heap) (locs : List Loc) (ls : Array Slot), j_X2_addReport_28 p1 s1 v_t_length r_t_signs = some (o_t_length, o_t_signs) → va_P D vwCl [(a_t, .inr (1, [.ref a_t_signs, .int v_t_length])), (a_t_signs, .inl (cI, 512, .inl r_t_signs))] H → va_S A s.heap H locs → lv_has ls 2 [(0, .ref a_t), (1, .int p1)] → W p l e { frames := 2, cells := 0, slots := 0, locals := 42 } s m args below meth c H locs 0 0 Qm (F0 m 28 ls [.int s1, .ref a_t]) := by
    intro s1 v_t_length r_t_signs H locs ls hf hP hS hl
    rw [j_X2_addReport_28] at hf
    obtain ⟨v_t_length_u1, r_t_signs_u1, hu1, hf⟩ := pn_bd2_at hf
    refine pn_callv [0, 1] (va_runV (As := [.int s1]) (rest := []) ⟨hx, hb, hml, hown, hts⟩ (c_X2_addSign l D cI cJ cZ a_t a_t_signs H.size v_t_length r_t_signs s1 v_t_length_u1 r_t_signs_u1 hu1) (cwV 1 hts gX2_addReport_X2_addSign rfl rfl rfl hdX2_addSign ⟨Nat.le_of_ble_eq_true rfl, Nat.le_of_ble_eq_true rfl⟩) (pn_preV [0, 1] hP (hD.addr rfl) hK rfl rfl (q0 := 0) (ci := 1) rfl rfl) rfl rfl hl.1 rfl (lv_room (Nat.le_of_ble_eq_true rfl)) dX2_addReport_28 ⟨Nat.zero_le _, Nat.zero_le _⟩) hP (hD.addr rfl) hS hA rfl rfl rfl (fun H locs (hP : va_P D vwCl [(a_t, .inr (1, [.ref a_t_signs, .int v_t_length_u1])), (a_t_signs, .inl (cI, 512, .inl r_t_signs_u1))] H) _ hS => ?_)
    refine lv_aload_n hx hb dX2_addReport_31 rfl (lv_at hl 0 rfl) ?_
    refine lv_iload_n hx hb dX2_addReport_32 rfl (lv_at hl 1 rfl) ?_
    refine lv_bipush (v := (100)) hx hb dX2_addReport_33 (by decide) ?_
    refine lv_irem hx hb dX2_addReport_35 (by decide) ?_
    obtain ⟨v_t_length_u2, r_t_signs_u2, hu2, hf⟩ := pn_bd2_at hf
    refine pn_callv [0, 1] (va_runV (As := [.int (p1 - p1 / (100 : Int32) * (100 : Int32))]) (rest := []) ⟨hx, hb, hml, hown, hts⟩ (c_X2_addPage l D cI cJ cZ a_t a_t_signs H.size v_t_length_u1 r_t_signs_u1 (p1 - p1 / (100 : Int32) * (100 : Int32)) v_t_length_u2 r_t_signs_u2 hu2) (cwV 1 hts gX2_addReport_X2_addPage rfl rfl rfl hdX2_addPage ⟨Nat.le_of_ble_eq_true rfl, Nat.le_of_ble_eq_true rfl⟩) (pn_preV [0, 1] hP (hD.addr rfl) hK rfl rfl (q0 := 0) (ci := 1) rfl rfl) rfl rfl hl.1 rfl (lv_room (Nat.le_of_ble_eq_true rfl)) dX2_addReport_36 ⟨Nat.zero_le _, Nat.zero_le _⟩) hP (hD.addr rfl) hS hA rfl rfl rfl (fun H locs (hP : va_P D vwCl [(a_t, .inr (1, [.ref a_t_signs, .int v_t_length_u2])), (a_t_signs, .inl (cI, 512, .inl r_t_signs_u2))] H) _ hS => ?_)
    cases hf
    rw [hQ]
    exact pn_retv hx hb hr hlocks hP hS dX2_addReport_39
  refine lv_aload_n hx hb dX2_addReport_0 rfl (lv_at hl 0 rfl) ?_
  refine lv_bipush (v := (48)) hx hb dX2_addReport_1 (by decide) ?_
  refine lv_iload_n hx hb dX2_addReport_3 rfl (lv_at hl 1 rfl) ?_
  refine lv_sipush (v := (1000)) hx hb dX2_addReport_4 (by decide) ?_
  refine lv_idiv hx hb dX2_addReport_7 (by decide) ?_
  refine lv_iadd hx hb dX2_addReport_8 ?_
  obtain ⟨v_t_length_u3, r_t_signs_u3, hu3, hf⟩ := pn_bd2_at hf
  refine pn_callv [0, 1] (va_runV (As := [.int ((48 : Int32) + (p1 / (1000 : Int32)))]) (rest := []) ⟨hx, hb, hml, hown, hts⟩ (c_X2_addSign l D cI cJ cZ a_t a_t_signs H.size v_t_length r_t_signs ((48 : Int32) + (p1 / (1000 : Int32))) v_t_length_u3 r_t_signs_u3 hu3) (cwV 1 hts gX2_addReport_X2_addSign rfl rfl rfl hdX2_addSign ⟨Nat.le_of_ble_eq_true rfl, Nat.le_of_ble_eq_true rfl⟩) (pn_preV [0, 1] hP (hD.addr rfl) hK rfl rfl (q0 := 0) (ci := 1) rfl rfl) rfl rfl hl.1 rfl (lv_room (Nat.le_of_ble_eq_true rfl)) dX2_addReport_9 ⟨Nat.zero_le _, Nat.zero_le _⟩) hP (hD.addr rfl) hS hA rfl rfl rfl (fun H locs (hP : va_P D vwCl [(a_t, .inr (1, [.ref a_t_signs, .int v_t_length_u3])), (a_t_signs, .inl (cI, 512, .inl r_t_signs_u3))] H) _ hS => ?_)
  refine lv_aload_n hx hb dX2_addReport_12 rfl (lv_at hl 0 rfl) ?_
  refine lv_iload_n hx hb dX2_addReport_13 rfl (lv_at hl 1 rfl) ?_
  refine lv_iconst (v := (0)) hx hb dX2_addReport_14 (by decide) ?_
  obtain ⟨ru4, hu4, hf⟩ := pn_bd1_at hf
  refine pn_calli [] (va_runSN (As := [.int p1, .int (0 : Int32)]) (rest := [.ref a_t]) ⟨hx, hb, hml, hown, hts⟩ (c_X6_isOfSeries l D cI cJ cZ H.size p1 (0 : Int32) ru4 hu4) ⟨va_cnB 2 hts gX2_addReport_X6_isOfSeries_n57 rfl rfl rfl hK.2.2.2.2.1 ini_X6_isOfSeries hdX6_isOfSeries ⟨Nat.le_of_ble_eq_true rfl, Nat.le_of_ble_eq_true rfl⟩, st_X6_isOfSeries, trivial⟩ (pn_preS [] hP (hD.addr rfl) hK rfl rfl) rfl rfl hl.1 rfl (lv_room (Nat.le_of_ble_eq_true rfl)) dX2_addReport_15 ⟨Nat.zero_le _, Nat.zero_le _⟩) hP (hD.addr rfl) hS hA rfl rfl rfl (fun H locs (hP : va_P D vwCl [(a_t, .inr (1, [.ref a_t_signs, .int v_t_length_u3])), (a_t_signs, .inl (cI, 512, .inl r_t_signs_u3))] H) _ hS => ?_)
  refine lv_if_eq (tgt := 26) hx hb dX2_addReport_18 (by decide) (fun c5 => ?_) (fun c5 => ?_)
  · have hf := pn_ifp c5 hf
    refine lv_bipush (v := (115)) hx hb dX2_addReport_26 (by decide) ?_
    exact jn28 (115 : Int32) v_t_length_u3 r_t_signs_u3 H locs ls hf hP hS (lv_sub hl [0, 1] rfl)
  · have hf := pn_ifn c5 hf
    refine lv_bipush (v := (114)) hx hb dX2_addReport_21 (by decide) ?_
    refine lv_goto (tgt := 28) hx hb dX2_addReport_23 (by decide) ?_
    exact jn28 (114 : Int32) v_t_length_u3 r_t_signs_u3 H locs ls hf hP hS (lv_sub hl [0, 1] rfl)
def f_X2_addFull (v_t_length : Int32) (r_t_signs : Nat → Int32) (p1 : Int64) : Option (Int32 × (Nat → Int32)) :=
  pn_bd1 (f_X0_first p1) fun ru1 =>
  pn_bd2 (f_X2_addSign v_t_length r_t_signs ((65 : Int32) + ru1)) fun v_t_length_u2 r_t_signs_u2 =>
  pn_bd1 (f_X0_second p1) fun ru3 =>
  pn_bd2 (f_X2_addSign v_t_length_u2 r_t_signs_u2 ((65 : Int32) + ru3)) fun v_t_length_u4 r_t_signs_u4 =>
  pn_bd1 (f_X0_report p1) fun ru5 =>
  pn_bd2 (f_X2_addReport v_t_length_u4 r_t_signs_u4 ru5) fun v_t_length_u6 r_t_signs_u6 =>
  pn_bd1 (f_X0_other p1) fun ru7 =>
  if ¬ ru7 = 0 then
  pn_bd2 (f_X2_addSign v_t_length_u6 r_t_signs_u6 (61 : Int32)) fun v_t_length_u9 r_t_signs_u9 =>
  pn_bd1 (f_X0_other p1) fun ru10 =>
  pn_bd2 (f_X2_addReport v_t_length_u9 r_t_signs_u9 ru10) fun v_t_length_u11 r_t_signs_u11 =>
  some (v_t_length_u11, r_t_signs_u11)
  else
  some (v_t_length_u6, r_t_signs_u6)
set_option maxHeartbeats 4000000 in
set_option maxRecDepth 100000 in
theorem c_X2_addFull (l : Launch) (D : va_G) (cI cJ cZ : ClassId) (a_t a_t_signs : Nat) (sz : Nat) (v_t_length : Int32) (r_t_signs : Nat → Int32) (p1 : Int64) (o_t_length : Int32) (o_t_signs : Nat → Int32) (hf : f_X2_addFull v_t_length r_t_signs p1 = some (o_t_length, o_t_signs)) : Met l yX2_addFull wsX2_addFull { frames := 3, cells := 0, slots := 0, locals := 63 } (pn_Pc D cI cJ cZ [.ref a_t, .long p1] [(a_t, .inr (1, [.ref a_t_signs, .int v_t_length])), (a_t_signs, .inl (cI, 512, .inl r_t_signs))] sz) (pn_Qv D [(a_t, .inr (1, [.ref a_t_signs, .int o_t_length])), (a_t_signs, .inl (cI, 512, .inl o_t_signs))] (va_A [(a_t, .inr (1, [.ref a_t_signs, .int v_t_length])), (a_t_signs, .inl (cI, 512, .inl r_t_signs))] sz)) 0 0 (va_A [(a_t, .inr (1, [.ref a_t_signs, .int v_t_length])), (a_t_signs, .inl (cI, 512, .inl r_t_signs))] sz) := by
  refine pn_entry (cc := cX2_addFull) (maxL := 3) (ret := none) (Qf := pn_Qv D [(a_t, .inr (1, [.ref a_t_signs, .int o_t_length])), (a_t_signs, .inl (cI, 512, .inl o_t_signs))]) (by decide) rfl (Nat.le_of_ble_eq_true rfl) ?_
  intro p e s m args below meth c A ls H locs Qm hQ hx hb hr hlocks hml hown hts hK hP hD hA hS hl
  have hl : lv_has ls 3 [(0, .ref a_t), (1, .long p1)] := hl
  rw [f_X2_addFull] at hf
  refine lv_aload_n hx hb dX2_addFull_0 rfl (lv_at hl 0 rfl) ?_
  refine lv_bipush (v := (65)) hx hb dX2_addFull_1 (by decide) ?_
  refine lv_lload_n hx hb dX2_addFull_3 rfl (lv_at hl 1 rfl) ?_
  obtain ⟨ru1, hu1, hf⟩ := pn_bd1_at hf
  refine pn_calli [] (va_runS (As := [.long p1]) (rest := [.int (65 : Int32), .ref a_t]) ⟨hx, hb, hml, hown, hts⟩ (c_X0_first l D cI cJ cZ H.size p1 ru1 hu1) (va_cwS 1 hts gX2_addFull_X0_first rfl rfl rfl hdX0_first ⟨Nat.le_of_ble_eq_true rfl, Nat.le_of_ble_eq_true rfl⟩) (pn_preS [] hP (hD.addr rfl) hK rfl rfl) rfl rfl hl.1 rfl (lv_room (Nat.le_of_ble_eq_true rfl)) dX2_addFull_4 ⟨Nat.zero_le _, Nat.zero_le _⟩) hP (hD.addr rfl) hS hA rfl rfl rfl (fun H locs (hP : va_P D vwCl [(a_t, .inr (1, [.ref a_t_signs, .int v_t_length])), (a_t_signs, .inl (cI, 512, .inl r_t_signs))] H) _ hS => ?_)
  refine lv_iadd hx hb dX2_addFull_7 ?_
  obtain ⟨v_t_length_u2, r_t_signs_u2, hu2, hf⟩ := pn_bd2_at hf
  refine pn_callv [0, 1] (va_runV (As := [.int ((65 : Int32) + ru1)]) (rest := []) ⟨hx, hb, hml, hown, hts⟩ (c_X2_addSign l D cI cJ cZ a_t a_t_signs H.size v_t_length r_t_signs ((65 : Int32) + ru1) v_t_length_u2 r_t_signs_u2 hu2) (cwV 1 hts gX2_addFull_X2_addSign rfl rfl rfl hdX2_addSign ⟨Nat.le_of_ble_eq_true rfl, Nat.le_of_ble_eq_true rfl⟩) (pn_preV [0, 1] hP (hD.addr rfl) hK rfl rfl (q0 := 0) (ci := 1) rfl rfl) rfl rfl hl.1 rfl (lv_room (Nat.le_of_ble_eq_true rfl)) dX2_addFull_8 ⟨Nat.zero_le _, Nat.zero_le _⟩) hP (hD.addr rfl) hS hA rfl rfl rfl (fun H locs (hP : va_P D vwCl [(a_t, .inr (1, [.ref a_t_signs, .int v_t_length_u2])), (a_t_signs, .inl (cI, 512, .inl r_t_signs_u2))] H) _ hS => ?_)
  refine lv_aload_n hx hb dX2_addFull_11 rfl (lv_at hl 0 rfl) ?_
  refine lv_bipush (v := (65)) hx hb dX2_addFull_12 (by decide) ?_
  refine lv_lload_n hx hb dX2_addFull_14 rfl (lv_at hl 1 rfl) ?_
  obtain ⟨ru3, hu3, hf⟩ := pn_bd1_at hf
  refine pn_calli [] (va_runS (As := [.long p1]) (rest := [.int (65 : Int32), .ref a_t]) ⟨hx, hb, hml, hown, hts⟩ (c_X0_second l D cI cJ cZ H.size p1 ru3 hu3) (va_cwS 1 hts gX2_addFull_X0_second rfl rfl rfl hdX0_second ⟨Nat.le_of_ble_eq_true rfl, Nat.le_of_ble_eq_true rfl⟩) (pn_preS [] hP (hD.addr rfl) hK rfl rfl) rfl rfl hl.1 rfl (lv_room (Nat.le_of_ble_eq_true rfl)) dX2_addFull_15 ⟨Nat.zero_le _, Nat.zero_le _⟩) hP (hD.addr rfl) hS hA rfl rfl rfl (fun H locs (hP : va_P D vwCl [(a_t, .inr (1, [.ref a_t_signs, .int v_t_length_u2])), (a_t_signs, .inl (cI, 512, .inl r_t_signs_u2))] H) _ hS => ?_)
  refine lv_iadd hx hb dX2_addFull_18 ?_
  obtain ⟨v_t_length_u4, r_t_signs_u4, hu4, hf⟩ := pn_bd2_at hf
  refine pn_callv [0, 1] (va_runV (As := [.int ((65 : Int32) + ru3)]) (rest := []) ⟨hx, hb, hml, hown, hts⟩ (c_X2_addSign l D cI cJ cZ a_t a_t_signs H.size v_t_length_u2 r_t_signs_u2 ((65 : Int32) + ru3) v_t_length_u4 r_t_signs_u4 hu4) (cwV 1 hts gX2_addFull_X2_addSign rfl rfl rfl hdX2_addSign ⟨Nat.le_of_ble_eq_true rfl, Nat.le_of_ble_eq_true rfl⟩) (pn_preV [0, 1] hP (hD.addr rfl) hK rfl rfl (q0 := 0) (ci := 1) rfl rfl) rfl rfl hl.1 rfl (lv_room (Nat.le_of_ble_eq_true rfl)) dX2_addFull_19 ⟨Nat.zero_le _, Nat.zero_le _⟩) hP (hD.addr rfl) hS hA rfl rfl rfl (fun H locs (hP : va_P D vwCl [(a_t, .inr (1, [.ref a_t_signs, .int v_t_length_u4])), (a_t_signs, .inl (cI, 512, .inl r_t_signs_u4))] H) _ hS => ?_)
  refine lv_aload_n hx hb dX2_addFull_22 rfl (lv_at hl 0 rfl) ?_
  refine lv_lload_n hx hb dX2_addFull_23 rfl (lv_at hl 1 rfl) ?_
  obtain ⟨ru5, hu5, hf⟩ := pn_bd1_at hf
  refine pn_calli [] (va_runS (As := [.long p1]) (rest := [.ref a_t]) ⟨hx, hb, hml, hown, hts⟩ (c_X0_report l D cI cJ cZ H.size p1 ru5 hu5) (va_cwS 1 hts gX2_addFull_X0_report rfl rfl rfl hdX0_report ⟨Nat.le_of_ble_eq_true rfl, Nat.le_of_ble_eq_true rfl⟩) (pn_preS [] hP (hD.addr rfl) hK rfl rfl) rfl rfl hl.1 rfl (lv_room (Nat.le_of_ble_eq_true rfl)) dX2_addFull_24 ⟨Nat.zero_le _, Nat.zero_le _⟩) hP (hD.addr rfl) hS hA rfl rfl rfl (fun H locs (hP : va_P D vwCl [(a_t, .inr (1, [.ref a_t_signs, .int v_t_length_u4])), (a_t_signs, .inl (cI, 512, .inl r_t_signs_u4))] H) _ hS => ?_)
  obtain ⟨v_t_length_u6, r_t_signs_u6, hu6, hf⟩ := pn_bd2_at hf
  refine pn_callv [0, 1] (va_runV (As := [.int ru5]) (rest := []) ⟨hx, hb, hml, hown, hts⟩ (c_X2_addReport l D cI cJ cZ a_t a_t_signs H.size v_t_length_u4 r_t_signs_u4 ru5 v_t_length_u6 r_t_signs_u6 hu6) (cwV 1 hts gX2_addFull_X2_addReport rfl rfl rfl hdX2_addReport ⟨Nat.le_of_ble_eq_true rfl, Nat.le_of_ble_eq_true rfl⟩) (pn_preV [0, 1] hP (hD.addr rfl) hK rfl rfl (q0 := 0) (ci := 1) rfl rfl) rfl rfl hl.1 rfl (lv_room (Nat.le_of_ble_eq_true rfl)) dX2_addFull_27 ⟨Nat.zero_le _, Nat.zero_le _⟩) hP (hD.addr rfl) hS hA rfl rfl rfl (fun H locs (hP : va_P D vwCl [(a_t, .inr (1, [.ref a_t_signs, .int v_t_length_u6])), (a_t_signs, .inl (cI, 512, .inl r_t_signs_u6))] H) _ hS => ?_)
  refine lv_lload_n hx hb dX2_addFull_30 rfl (lv_at hl 1 rfl) ?_
  obtain ⟨ru7, hu7, hf⟩ := pn_bd1_at hf
  refine pn_calli [] (va_runS (As := [.long p1]) (rest := []) ⟨hx, hb, hml, hown, hts⟩ (c_X0_other l D cI cJ cZ H.size p1 ru7 hu7) (va_cwS 1 hts gX2_addFull_X0_other rfl rfl rfl hdX0_other ⟨Nat.le_of_ble_eq_true rfl, Nat.le_of_ble_eq_true rfl⟩) (pn_preS [] hP (hD.addr rfl) hK rfl rfl) rfl rfl hl.1 rfl (lv_room (Nat.le_of_ble_eq_true rfl)) dX2_addFull_31 ⟨Nat.zero_le _, Nat.zero_le _⟩) hP (hD.addr rfl) hS hA rfl rfl rfl (fun H locs (hP : va_P D vwCl [(a_t, .inr (1, [.ref a_t_signs, .int v_t_length_u6])), (a_t_signs, .inl (cI, 512, .inl r_t_signs_u6))] H) _ hS => ?_)
  refine lv_if_ne (tgt := 38) hx hb dX2_addFull_34 (by decide) (fun c8 => ?_) (fun c8 => ?_)
  · have hf := pn_ifp c8 hf
    refine lv_aload_n hx hb dX2_addFull_38 rfl (lv_at hl 0 rfl) ?_
    refine lv_bipush (v := (61)) hx hb dX2_addFull_39 (by decide) ?_
    obtain ⟨v_t_length_u9, r_t_signs_u9, hu9, hf⟩ := pn_bd2_at hf
    refine pn_callv [0, 1] (va_runV (As := [.int (61 : Int32)]) (rest := []) ⟨hx, hb, hml, hown, hts⟩ (c_X2_addSign l D cI cJ cZ a_t a_t_signs H.size v_t_length_u6 r_t_signs_u6 (61 : Int32) v_t_length_u9 r_t_signs_u9 hu9) (cwV 1 hts gX2_addFull_X2_addSign rfl rfl rfl hdX2_addSign ⟨Nat.le_of_ble_eq_true rfl, Nat.le_of_ble_eq_true rfl⟩) (pn_preV [0, 1] hP (hD.addr rfl) hK rfl rfl (q0 := 0) (ci := 1) rfl rfl) rfl rfl hl.1 rfl (lv_room (Nat.le_of_ble_eq_true rfl)) dX2_addFull_41 ⟨Nat.zero_le _, Nat.zero_le _⟩) hP (hD.addr rfl) hS hA rfl rfl rfl (fun H locs (hP : va_P D vwCl [(a_t, .inr (1, [.ref a_t_signs, .int v_t_length_u9])), (a_t_signs, .inl (cI, 512, .inl r_t_signs_u9))] H) _ hS => ?_)
    refine lv_aload_n hx hb dX2_addFull_44 rfl (lv_at hl 0 rfl) ?_
    refine lv_lload_n hx hb dX2_addFull_45 rfl (lv_at hl 1 rfl) ?_
    obtain ⟨ru10, hu10, hf⟩ := pn_bd1_at hf
    refine pn_calli [] (va_runS (As := [.long p1]) (rest := [.ref a_t]) ⟨hx, hb, hml, hown, hts⟩ (c_X0_other l D cI cJ cZ H.size p1 ru10 hu10) (va_cwS 1 hts gX2_addFull_X0_other rfl rfl rfl hdX0_other ⟨Nat.le_of_ble_eq_true rfl, Nat.le_of_ble_eq_true rfl⟩) (pn_preS [] hP (hD.addr rfl) hK rfl rfl) rfl rfl hl.1 rfl (lv_room (Nat.le_of_ble_eq_true rfl)) dX2_addFull_46 ⟨Nat.zero_le _, Nat.zero_le _⟩) hP (hD.addr rfl) hS hA rfl rfl rfl (fun H locs (hP : va_P D vwCl [(a_t, .inr (1, [.ref a_t_signs, .int v_t_length_u9])), (a_t_signs, .inl (cI, 512, .inl r_t_signs_u9))] H) _ hS => ?_)
    obtain ⟨v_t_length_u11, r_t_signs_u11, hu11, hf⟩ := pn_bd2_at hf
    refine pn_callv [0, 1] (va_runV (As := [.int ru10]) (rest := []) ⟨hx, hb, hml, hown, hts⟩ (c_X2_addReport l D cI cJ cZ a_t a_t_signs H.size v_t_length_u9 r_t_signs_u9 ru10 v_t_length_u11 r_t_signs_u11 hu11) (cwV 1 hts gX2_addFull_X2_addReport rfl rfl rfl hdX2_addReport ⟨Nat.le_of_ble_eq_true rfl, Nat.le_of_ble_eq_true rfl⟩) (pn_preV [0, 1] hP (hD.addr rfl) hK rfl rfl (q0 := 0) (ci := 1) rfl rfl) rfl rfl hl.1 rfl (lv_room (Nat.le_of_ble_eq_true rfl)) dX2_addFull_49 ⟨Nat.zero_le _, Nat.zero_le _⟩) hP (hD.addr rfl) hS hA rfl rfl rfl (fun H locs (hP : va_P D vwCl [(a_t, .inr (1, [.ref a_t_signs, .int v_t_length_u11])), (a_t_signs, .inl (cI, 512, .inl r_t_signs_u11))] H) _ hS => ?_)
    cases hf
    rw [hQ]
    exact pn_retv hx hb hr hlocks hP hS dX2_addFull_52
  · have hf := pn_ifq c8 hf
    cases hf
    rw [hQ]
    exact pn_retv hx hb hr hlocks hP hS dX2_addFull_37
def j_X2_addCite_95 (p1 : Int64) (v_t_length : Int32) (r_t_signs : Nat → Int32) : Option (Int32 × (Nat → Int32)) :=
  pn_bd1 (f_X0_pin p1) fun ru1 =>
  if ¬ ru1 = 0 then
  pn_bd2 (f_X2_addSign v_t_length r_t_signs (64 : Int32)) fun v_t_length_u3 r_t_signs_u3 =>
  pn_bd1 (f_X0_pin p1) fun ru4 =>
  pn_bd2 (f_X2_addPage v_t_length_u3 r_t_signs_u3 ru4) fun v_t_length_u5 r_t_signs_u5 =>
  some (v_t_length_u5, r_t_signs_u5)
  else
  some (v_t_length, r_t_signs)
def f_X2_addCite (v_t_length : Int32) (r_t_signs : Nat → Int32) (p1 : Int64) : Option (Int32 × (Nat → Int32)) :=
  pn_bd1 (f_X0_form p1) fun ru6 =>
  if ru6 = 0 then
  pn_bd2 (f_X2_addFull v_t_length r_t_signs p1) fun v_t_length_u8 r_t_signs_u8 =>
  j_X2_addCite_95 p1 v_t_length_u8 r_t_signs_u8
  else if ru6 = 2 then
  pn_bd2 (f_X2_addSign v_t_length r_t_signs (105 : Int32)) fun v_t_length_u10 r_t_signs_u10 =>
  j_X2_addCite_95 p1 v_t_length_u10 r_t_signs_u10
  else if ru6 = 3 then
  pn_bd2 (f_X2_addSign v_t_length r_t_signs (97 : Int32)) fun v_t_length_u12 r_t_signs_u12 =>
  pn_bd1 (f_X0_number p1) fun ru13 =>
  pn_bd2 (f_X2_addSign v_t_length_u12 r_t_signs_u12 ((48 : Int32) + ru13)) fun v_t_length_u14 r_t_signs_u14 =>
  pn_bd1 (f_X0_first p1) fun ru15 =>
  pn_bd2 (f_X2_addSign v_t_length_u14 r_t_signs_u14 ((65 : Int32) + ru15)) fun v_t_length_u16 r_t_signs_u16 =>
  j_X2_addCite_95 p1 v_t_length_u16 r_t_signs_u16
  else pn_bd1 (f_X0_first p1) fun ru17 =>
  pn_bd2 (f_X2_addSign v_t_length r_t_signs ((65 : Int32) + ru17)) fun v_t_length_u18 r_t_signs_u18 =>
  j_X2_addCite_95 p1 v_t_length_u18 r_t_signs_u18
set_option maxHeartbeats 4000000 in
set_option maxRecDepth 100000 in
theorem c_X2_addCite (l : Launch) (D : va_G) (cI cJ cZ : ClassId) (a_t a_t_signs : Nat) (sz : Nat) (v_t_length : Int32) (r_t_signs : Nat → Int32) (p1 : Int64) (o_t_length : Int32) (o_t_signs : Nat → Int32) (hf : f_X2_addCite v_t_length r_t_signs p1 = some (o_t_length, o_t_signs)) : Met l yX2_addCite wsX2_addCite { frames := 4, cells := 0, slots := 0, locals := 85 } (pn_Pc D cI cJ cZ [.ref a_t, .long p1] [(a_t, .inr (1, [.ref a_t_signs, .int v_t_length])), (a_t_signs, .inl (cI, 512, .inl r_t_signs))] sz) (pn_Qv D [(a_t, .inr (1, [.ref a_t_signs, .int o_t_length])), (a_t_signs, .inl (cI, 512, .inl o_t_signs))] (va_A [(a_t, .inr (1, [.ref a_t_signs, .int v_t_length])), (a_t_signs, .inl (cI, 512, .inl r_t_signs))] sz)) 0 0 (va_A [(a_t, .inr (1, [.ref a_t_signs, .int v_t_length])), (a_t_signs, .inl (cI, 512, .inl r_t_signs))] sz) := by
  refine pn_entry (cc := cX2_addCite) (maxL := 3) (ret := none) (Qf := pn_Qv D [(a_t, .inr (1, [.ref a_t_signs, .int o_t_length])), (a_t_signs, .inl (cI, 512, .inl o_t_signs))]) (by decide) rfl (Nat.le_of_ble_eq_true rfl) ?_
  intro p e s m args below meth c A ls H locs Qm hQ hx hb hr hlocks hml hown hts hK hP hD hA hS hl
  have hl : lv_has ls 3 [(0, .ref a_t), (1, .long p1)] := hl
  rw [f_X2_addCite] at hf
  have jn95 : ∀ (v_t_length : Int32) (r_t_signs : Nat → Int32) (H : Heap) (locs : List Loc) (ls : Array Slot), j_X2_addCite_95 p1 v_t_length r_t_signs = some (o_t_length, o_t_signs) → va_P D vwCl [(a_t, .inr (1, [.ref a_t_signs, .int v_t_length])), (a_t_signs, .inl (cI, 512, .inl r_t_signs))] H → va_S A s.heap H locs → lv_has ls 3 [(0, .ref a_t), (1, .long p1)] → W p l e { frames := 4, cells := 0, slots := 0, locals := 85 } s m args below meth c H locs 0 0 Qm (F0 m 95 ls []) := by
    intro v_t_length r_t_signs H locs ls hf hP hS hl
    rw [j_X2_addCite_95] at hf
    refine lv_lload_n hx hb dX2_addCite_95 rfl (lv_at hl 1 rfl) ?_
    obtain ⟨ru1, hu1, hf⟩ := pn_bd1_at hf
    refine pn_calli [] (va_runS (As := [.long p1]) (rest := []) ⟨hx, hb, hml, hown, hts⟩ (c_X0_pin l D cI cJ cZ H.size p1 ru1 hu1) (va_cwS 1 hts gX2_addCite_X0_pin rfl rfl rfl hdX0_pin ⟨Nat.le_of_ble_eq_true rfl, Nat.le_of_ble_eq_true rfl⟩) (pn_preS [] hP (hD.addr rfl) hK rfl rfl) rfl rfl hl.1 rfl (lv_room (Nat.le_of_ble_eq_true rfl)) dX2_addCite_96 ⟨Nat.zero_le _, Nat.zero_le _⟩) hP (hD.addr rfl) hS hA rfl rfl rfl (fun H locs (hP : va_P D vwCl [(a_t, .inr (1, [.ref a_t_signs, .int v_t_length])), (a_t_signs, .inl (cI, 512, .inl r_t_signs))] H) _ hS => ?_)
    refine lv_if_ne (tgt := 103) hx hb dX2_addCite_99 (by decide) (fun c2 => ?_) (fun c2 => ?_)
    · have hf := pn_ifp c2 hf
      refine lv_aload_n hx hb dX2_addCite_103 rfl (lv_at hl 0 rfl) ?_
      refine lv_bipush (v := (64)) hx hb dX2_addCite_104 (by decide) ?_
      obtain ⟨v_t_length_u3, r_t_signs_u3, hu3, hf⟩ := pn_bd2_at hf
      refine pn_callv [0, 1] (va_runV (As := [.int (64 : Int32)]) (rest := []) ⟨hx, hb, hml, hown, hts⟩ (c_X2_addSign l D cI cJ cZ a_t a_t_signs H.size v_t_length r_t_signs (64 : Int32) v_t_length_u3 r_t_signs_u3 hu3) (cwV 1 hts gX2_addCite_X2_addSign rfl rfl rfl hdX2_addSign ⟨Nat.le_of_ble_eq_true rfl, Nat.le_of_ble_eq_true rfl⟩) (pn_preV [0, 1] hP (hD.addr rfl) hK rfl rfl (q0 := 0) (ci := 1) rfl rfl) rfl rfl hl.1 rfl (lv_room (Nat.le_of_ble_eq_true rfl)) dX2_addCite_106 ⟨Nat.zero_le _, Nat.zero_le _⟩) hP (hD.addr rfl) hS hA rfl rfl rfl (fun H locs (hP : va_P D vwCl [(a_t, .inr (1, [.ref a_t_signs, .int v_t_length_u3])), (a_t_signs, .inl (cI, 512, .inl r_t_signs_u3))] H) _ hS => ?_)
      refine lv_aload_n hx hb dX2_addCite_109 rfl (lv_at hl 0 rfl) ?_
      refine lv_lload_n hx hb dX2_addCite_110 rfl (lv_at hl 1 rfl) ?_
      obtain ⟨ru4, hu4, hf⟩ := pn_bd1_at hf
      refine pn_calli [] (va_runS (As := [.long p1]) (rest := [.ref a_t]) ⟨hx, hb, hml, hown, hts⟩ (c_X0_pin l D cI cJ cZ H.size p1 ru4 hu4) (va_cwS 1 hts gX2_addCite_X0_pin rfl rfl rfl hdX0_pin ⟨Nat.le_of_ble_eq_true rfl, Nat.le_of_ble_eq_true rfl⟩) (pn_preS [] hP (hD.addr rfl) hK rfl rfl) rfl rfl hl.1 rfl (lv_room (Nat.le_of_ble_eq_true rfl)) dX2_addCite_111 ⟨Nat.zero_le _, Nat.zero_le _⟩) hP (hD.addr rfl) hS hA rfl rfl rfl (fun H locs (hP : va_P D vwCl [(a_t, .inr (1, [.ref a_t_signs, .int v_t_length_u3])), (a_t_signs, .inl (cI, 512, .inl r_t_signs_u3))] H) _ hS => ?_)
      obtain ⟨v_t_length_u5, r_t_signs_u5, hu5, hf⟩ := pn_bd2_at hf
      refine pn_callv [0, 1] (va_runV (As := [.int ru4]) (rest := []) ⟨hx, hb, hml, hown, hts⟩ (c_X2_addPage l D cI cJ cZ a_t a_t_signs H.size v_t_length_u3 r_t_signs_u3 ru4 v_t_length_u5 r_t_signs_u5 hu5) (cwV 1 hts gX2_addCite_X2_addPage rfl rfl rfl hdX2_addPage ⟨Nat.le_of_ble_eq_true rfl, Nat.le_of_ble_eq_true rfl⟩) (pn_preV [0, 1] hP (hD.addr rfl) hK rfl rfl (q0 := 0) (ci := 1) rfl rfl) rfl rfl hl.1 rfl (lv_room (Nat.le_of_ble_eq_true rfl)) dX2_addCite_114 ⟨Nat.zero_le _, Nat.zero_le _⟩) hP (hD.addr rfl) hS hA rfl rfl rfl (fun H locs (hP : va_P D vwCl [(a_t, .inr (1, [.ref a_t_signs, .int v_t_length_u5])), (a_t_signs, .inl (cI, 512, .inl r_t_signs_u5))] H) _ hS => ?_)
      cases hf
      rw [hQ]
      exact pn_retv hx hb hr hlocks hP hS dX2_addCite_117
    · have hf := pn_ifq c2 hf
      cases hf
      rw [hQ]
      exact pn_retv hx hb hr hlocks hP hS dX2_addCite_102
  refine lv_lload_n hx hb dX2_addCite_0 rfl (lv_at hl 1 rfl) ?_
  obtain ⟨ru6, hu6, hf⟩ := pn_bd1_at hf
  refine pn_calli [] (va_runS (As := [.long p1]) (rest := []) ⟨hx, hb, hml, hown, hts⟩ (c_X0_form l D cI cJ cZ H.size p1 ru6 hu6) (va_cwS 1 hts gX2_addCite_X0_form rfl rfl rfl hdX0_form ⟨Nat.le_of_ble_eq_true rfl, Nat.le_of_ble_eq_true rfl⟩) (pn_preS [] hP (hD.addr rfl) hK rfl rfl) rfl rfl hl.1 rfl (lv_room (Nat.le_of_ble_eq_true rfl)) dX2_addCite_1 ⟨Nat.zero_le _, Nat.zero_le _⟩) hP (hD.addr rfl) hS hA rfl rfl rfl (fun H locs (hP : va_P D vwCl [(a_t, .inr (1, [.ref a_t_signs, .int v_t_length])), (a_t_signs, .inl (cI, 512, .inl r_t_signs))] H) _ hS => ?_)
  by_cases c7 : ru6 = 0
  · have hf := pn_ifp c7 hf
    refine lv_tableIn (tgt := 36) hx hb dX2_addCite_4 (by rw [c7]; decide) (by rw [c7]; decide) (by rw [c7]; rfl) (by decide) ?_
    refine lv_aload_n hx hb dX2_addCite_36 rfl (lv_at hl 0 rfl) ?_
    refine lv_lload_n hx hb dX2_addCite_37 rfl (lv_at hl 1 rfl) ?_
    obtain ⟨v_t_length_u8, r_t_signs_u8, hu8, hf⟩ := pn_bd2_at hf
    refine pn_callv [0, 1] (va_runV (As := [.long p1]) (rest := []) ⟨hx, hb, hml, hown, hts⟩ (c_X2_addFull l D cI cJ cZ a_t a_t_signs H.size v_t_length r_t_signs p1 v_t_length_u8 r_t_signs_u8 hu8) (cwV 1 hts gX2_addCite_X2_addFull rfl rfl rfl hdX2_addFull ⟨Nat.le_of_ble_eq_true rfl, Nat.le_of_ble_eq_true rfl⟩) (pn_preV [0, 1] hP (hD.addr rfl) hK rfl rfl (q0 := 0) (ci := 1) rfl rfl) rfl rfl hl.1 rfl (lv_room (Nat.le_of_ble_eq_true rfl)) dX2_addCite_38 ⟨Nat.zero_le _, Nat.zero_le _⟩) hP (hD.addr rfl) hS hA rfl rfl rfl (fun H locs (hP : va_P D vwCl [(a_t, .inr (1, [.ref a_t_signs, .int v_t_length_u8])), (a_t_signs, .inl (cI, 512, .inl r_t_signs_u8))] H) _ hS => ?_)
    refine lv_goto (tgt := 95) hx hb dX2_addCite_41 (by decide) ?_
    exact jn95 v_t_length_u8 r_t_signs_u8 H locs ls hf hP hS (lv_sub hl [0, 1] rfl)
  · have hf := pn_ifn c7 hf
    by_cases c9 : ru6 = 2
    · have hf := pn_ifp c9 hf
      refine lv_tableIn (tgt := 44) hx hb dX2_addCite_4 (by rw [c9]; decide) (by rw [c9]; decide) (by rw [c9]; rfl) (by decide) ?_
      refine lv_aload_n hx hb dX2_addCite_44 rfl (lv_at hl 0 rfl) ?_
      refine lv_bipush (v := (105)) hx hb dX2_addCite_45 (by decide) ?_
      obtain ⟨v_t_length_u10, r_t_signs_u10, hu10, hf⟩ := pn_bd2_at hf
      refine pn_callv [0, 1] (va_runV (As := [.int (105 : Int32)]) (rest := []) ⟨hx, hb, hml, hown, hts⟩ (c_X2_addSign l D cI cJ cZ a_t a_t_signs H.size v_t_length r_t_signs (105 : Int32) v_t_length_u10 r_t_signs_u10 hu10) (cwV 1 hts gX2_addCite_X2_addSign rfl rfl rfl hdX2_addSign ⟨Nat.le_of_ble_eq_true rfl, Nat.le_of_ble_eq_true rfl⟩) (pn_preV [0, 1] hP (hD.addr rfl) hK rfl rfl (q0 := 0) (ci := 1) rfl rfl) rfl rfl hl.1 rfl (lv_room (Nat.le_of_ble_eq_true rfl)) dX2_addCite_47 ⟨Nat.zero_le _, Nat.zero_le _⟩) hP (hD.addr rfl) hS hA rfl rfl rfl (fun H locs (hP : va_P D vwCl [(a_t, .inr (1, [.ref a_t_signs, .int v_t_length_u10])), (a_t_signs, .inl (cI, 512, .inl r_t_signs_u10))] H) _ hS => ?_)
      refine lv_goto (tgt := 95) hx hb dX2_addCite_50 (by decide) ?_
      exact jn95 v_t_length_u10 r_t_signs_u10 H locs ls hf hP hS (lv_sub hl [0, 1] rfl)
    · have hf := pn_ifn c9 hf
      by_cases c11 : ru6 = 3
      · have hf := pn_ifp c11 hf
        refine lv_tableIn (tgt := 53) hx hb dX2_addCite_4 (by rw [c11]; decide) (by rw [c11]; decide) (by rw [c11]; rfl) (by decide) ?_
        refine lv_aload_n hx hb dX2_addCite_53 rfl (lv_at hl 0 rfl) ?_
        refine lv_bipush (v := (97)) hx hb dX2_addCite_54 (by decide) ?_
        obtain ⟨v_t_length_u12, r_t_signs_u12, hu12, hf⟩ := pn_bd2_at hf
        refine pn_callv [0, 1] (va_runV (As := [.int (97 : Int32)]) (rest := []) ⟨hx, hb, hml, hown, hts⟩ (c_X2_addSign l D cI cJ cZ a_t a_t_signs H.size v_t_length r_t_signs (97 : Int32) v_t_length_u12 r_t_signs_u12 hu12) (cwV 1 hts gX2_addCite_X2_addSign rfl rfl rfl hdX2_addSign ⟨Nat.le_of_ble_eq_true rfl, Nat.le_of_ble_eq_true rfl⟩) (pn_preV [0, 1] hP (hD.addr rfl) hK rfl rfl (q0 := 0) (ci := 1) rfl rfl) rfl rfl hl.1 rfl (lv_room (Nat.le_of_ble_eq_true rfl)) dX2_addCite_56 ⟨Nat.zero_le _, Nat.zero_le _⟩) hP (hD.addr rfl) hS hA rfl rfl rfl (fun H locs (hP : va_P D vwCl [(a_t, .inr (1, [.ref a_t_signs, .int v_t_length_u12])), (a_t_signs, .inl (cI, 512, .inl r_t_signs_u12))] H) _ hS => ?_)
        refine lv_aload_n hx hb dX2_addCite_59 rfl (lv_at hl 0 rfl) ?_
        refine lv_bipush (v := (48)) hx hb dX2_addCite_60 (by decide) ?_
        refine lv_lload_n hx hb dX2_addCite_62 rfl (lv_at hl 1 rfl) ?_
        obtain ⟨ru13, hu13, hf⟩ := pn_bd1_at hf
        refine pn_calli [] (va_runS (As := [.long p1]) (rest := [.int (48 : Int32), .ref a_t]) ⟨hx, hb, hml, hown, hts⟩ (c_X0_number l D cI cJ cZ H.size p1 ru13 hu13) (va_cwS 1 hts gX2_addCite_X0_number rfl rfl rfl hdX0_number ⟨Nat.le_of_ble_eq_true rfl, Nat.le_of_ble_eq_true rfl⟩) (pn_preS [] hP (hD.addr rfl) hK rfl rfl) rfl rfl hl.1 rfl (lv_room (Nat.le_of_ble_eq_true rfl)) dX2_addCite_63 ⟨Nat.zero_le _, Nat.zero_le _⟩) hP (hD.addr rfl) hS hA rfl rfl rfl (fun H locs (hP : va_P D vwCl [(a_t, .inr (1, [.ref a_t_signs, .int v_t_length_u12])), (a_t_signs, .inl (cI, 512, .inl r_t_signs_u12))] H) _ hS => ?_)
        refine lv_iadd hx hb dX2_addCite_66 ?_
        obtain ⟨v_t_length_u14, r_t_signs_u14, hu14, hf⟩ := pn_bd2_at hf
        refine pn_callv [0, 1] (va_runV (As := [.int ((48 : Int32) + ru13)]) (rest := []) ⟨hx, hb, hml, hown, hts⟩ (c_X2_addSign l D cI cJ cZ a_t a_t_signs H.size v_t_length_u12 r_t_signs_u12 ((48 : Int32) + ru13) v_t_length_u14 r_t_signs_u14 hu14) (cwV 1 hts gX2_addCite_X2_addSign rfl rfl rfl hdX2_addSign ⟨Nat.le_of_ble_eq_true rfl, Nat.le_of_ble_eq_true rfl⟩) (pn_preV [0, 1] hP (hD.addr rfl) hK rfl rfl (q0 := 0) (ci := 1) rfl rfl) rfl rfl hl.1 rfl (lv_room (Nat.le_of_ble_eq_true rfl)) dX2_addCite_67 ⟨Nat.zero_le _, Nat.zero_le _⟩) hP (hD.addr rfl) hS hA rfl rfl rfl (fun H locs (hP : va_P D vwCl [(a_t, .inr (1, [.ref a_t_signs, .int v_t_length_u14])), (a_t_signs, .inl (cI, 512, .inl r_t_signs_u14))] H) _ hS => ?_)
        refine lv_aload_n hx hb dX2_addCite_70 rfl (lv_at hl 0 rfl) ?_
        refine lv_bipush (v := (65)) hx hb dX2_addCite_71 (by decide) ?_
        refine lv_lload_n hx hb dX2_addCite_73 rfl (lv_at hl 1 rfl) ?_
        obtain ⟨ru15, hu15, hf⟩ := pn_bd1_at hf
        refine pn_calli [] (va_runS (As := [.long p1]) (rest := [.int (65 : Int32), .ref a_t]) ⟨hx, hb, hml, hown, hts⟩ (c_X0_first l D cI cJ cZ H.size p1 ru15 hu15) (va_cwS 1 hts gX2_addCite_X0_first rfl rfl rfl hdX0_first ⟨Nat.le_of_ble_eq_true rfl, Nat.le_of_ble_eq_true rfl⟩) (pn_preS [] hP (hD.addr rfl) hK rfl rfl) rfl rfl hl.1 rfl (lv_room (Nat.le_of_ble_eq_true rfl)) dX2_addCite_74 ⟨Nat.zero_le _, Nat.zero_le _⟩) hP (hD.addr rfl) hS hA rfl rfl rfl (fun H locs (hP : va_P D vwCl [(a_t, .inr (1, [.ref a_t_signs, .int v_t_length_u14])), (a_t_signs, .inl (cI, 512, .inl r_t_signs_u14))] H) _ hS => ?_)
        refine lv_iadd hx hb dX2_addCite_77 ?_
        obtain ⟨v_t_length_u16, r_t_signs_u16, hu16, hf⟩ := pn_bd2_at hf
        refine pn_callv [0, 1] (va_runV (As := [.int ((65 : Int32) + ru15)]) (rest := []) ⟨hx, hb, hml, hown, hts⟩ (c_X2_addSign l D cI cJ cZ a_t a_t_signs H.size v_t_length_u14 r_t_signs_u14 ((65 : Int32) + ru15) v_t_length_u16 r_t_signs_u16 hu16) (cwV 1 hts gX2_addCite_X2_addSign rfl rfl rfl hdX2_addSign ⟨Nat.le_of_ble_eq_true rfl, Nat.le_of_ble_eq_true rfl⟩) (pn_preV [0, 1] hP (hD.addr rfl) hK rfl rfl (q0 := 0) (ci := 1) rfl rfl) rfl rfl hl.1 rfl (lv_room (Nat.le_of_ble_eq_true rfl)) dX2_addCite_78 ⟨Nat.zero_le _, Nat.zero_le _⟩) hP (hD.addr rfl) hS hA rfl rfl rfl (fun H locs (hP : va_P D vwCl [(a_t, .inr (1, [.ref a_t_signs, .int v_t_length_u16])), (a_t_signs, .inl (cI, 512, .inl r_t_signs_u16))] H) _ hS => ?_)
        refine lv_goto (tgt := 95) hx hb dX2_addCite_81 (by decide) ?_
        exact jn95 v_t_length_u16 r_t_signs_u16 H locs ls hf hP hS (lv_sub hl [0, 1] rfl)
      · have hf := pn_ifn c11 hf
        refine pn_tableD (tgt := 84) hx hb dX2_addCite_4 (by have := lv_neT (a := 0) c7 (by decide); have := lv_neT (a := 2) c9 (by decide); have := lv_neT (a := 3) c11 (by decide); intro h1 h2; have : ru6.toInt = 1 := (by omega); rw [this]; rfl) (by decide) ?_
        refine lv_aload_n hx hb dX2_addCite_84 rfl (lv_at hl 0 rfl) ?_
        refine lv_bipush (v := (65)) hx hb dX2_addCite_85 (by decide) ?_
        refine lv_lload_n hx hb dX2_addCite_87 rfl (lv_at hl 1 rfl) ?_
        obtain ⟨ru17, hu17, hf⟩ := pn_bd1_at hf
        refine pn_calli [] (va_runS (As := [.long p1]) (rest := [.int (65 : Int32), .ref a_t]) ⟨hx, hb, hml, hown, hts⟩ (c_X0_first l D cI cJ cZ H.size p1 ru17 hu17) (va_cwS 1 hts gX2_addCite_X0_first rfl rfl rfl hdX0_first ⟨Nat.le_of_ble_eq_true rfl, Nat.le_of_ble_eq_true rfl⟩) (pn_preS [] hP (hD.addr rfl) hK rfl rfl) rfl rfl hl.1 rfl (lv_room (Nat.le_of_ble_eq_true rfl)) dX2_addCite_88 ⟨Nat.zero_le _, Nat.zero_le _⟩) hP (hD.addr rfl) hS hA rfl rfl rfl (fun H locs (hP : va_P D vwCl [(a_t, .inr (1, [.ref a_t_signs, .int v_t_length])), (a_t_signs, .inl (cI, 512, .inl r_t_signs))] H) _ hS => ?_)
        refine lv_iadd hx hb dX2_addCite_91 ?_
        obtain ⟨v_t_length_u18, r_t_signs_u18, hu18, hf⟩ := pn_bd2_at hf
        refine pn_callv [0, 1] (va_runV (As := [.int ((65 : Int32) + ru17)]) (rest := []) ⟨hx, hb, hml, hown, hts⟩ (c_X2_addSign l D cI cJ cZ a_t a_t_signs H.size v_t_length r_t_signs ((65 : Int32) + ru17) v_t_length_u18 r_t_signs_u18 hu18) (cwV 1 hts gX2_addCite_X2_addSign rfl rfl rfl hdX2_addSign ⟨Nat.le_of_ble_eq_true rfl, Nat.le_of_ble_eq_true rfl⟩) (pn_preV [0, 1] hP (hD.addr rfl) hK rfl rfl (q0 := 0) (ci := 1) rfl rfl) rfl rfl hl.1 rfl (lv_room (Nat.le_of_ble_eq_true rfl)) dX2_addCite_92 ⟨Nat.zero_le _, Nat.zero_le _⟩) hP (hD.addr rfl) hS hA rfl rfl rfl (fun H locs (hP : va_P D vwCl [(a_t, .inr (1, [.ref a_t_signs, .int v_t_length_u18])), (a_t_signs, .inl (cI, 512, .inl r_t_signs_u18))] H) _ hS => ?_)
        exact jn95 v_t_length_u18 r_t_signs_u18 H locs ls hf hP hS (lv_sub hl [0, 1] rfl)
