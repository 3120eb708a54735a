theorem hdX0_makeFull : yX0_makeFull.cls ≠ "java/lang/invoke/MethodHandle" ∧ yX0_makeFull.cls ≠ "java/lang/invoke/VarHandle" ∧ (parseMethodDescriptor yX0_makeFull.desc).map (fun d => d.parameters.length) = some 4 := by decide +kernel
theorem hdX0_makeShort : yX0_makeShort.cls ≠ "java/lang/invoke/MethodHandle" ∧ yX0_makeShort.cls ≠ "java/lang/invoke/VarHandle" ∧ (parseMethodDescriptor yX0_makeShort.desc).map (fun d => d.parameters.length) = some 1 := by decide +kernel
theorem hdX0_makeSame : yX0_makeSame.cls ≠ "java/lang/invoke/MethodHandle" ∧ yX0_makeSame.cls ≠ "java/lang/invoke/VarHandle" ∧ (parseMethodDescriptor yX0_makeSame.desc).map (fun d => d.parameters.length) = some 0 := by decide +kernel
theorem hdX0_makeAbove : yX0_makeAbove.cls ≠ "java/lang/invoke/MethodHandle" ∧ yX0_makeAbove.cls ≠ "java/lang/invoke/VarHandle" ∧ (parseMethodDescriptor yX0_makeAbove.desc).map (fun d => d.parameters.length) = some 2 := by decide +kernel
theorem hdX0_withPin : yX0_withPin.cls ≠ "java/lang/invoke/MethodHandle" ∧ yX0_withPin.cls ≠ "java/lang/invoke/VarHandle" ∧ (parseMethodDescriptor yX0_withPin.desc).map (fun d => d.parameters.length) = some 2 := by decide +kernel
theorem hdX0_withNumber : yX0_withNumber.cls ≠ "java/lang/invoke/MethodHandle" ∧ yX0_withNumber.cls ≠ "java/lang/invoke/VarHandle" ∧ (parseMethodDescriptor yX0_withNumber.desc).map (fun d => d.parameters.length) = some 2 := by decide +kernel
theorem hdX0_form : yX0_form.cls ≠ "java/lang/invoke/MethodHandle" ∧ yX0_form.cls ≠ "java/lang/invoke/VarHandle" ∧ (parseMethodDescriptor yX0_form.desc).map (fun d => d.parameters.length) = some 1 := by decide +kernel
theorem hdX0_first : yX0_first.cls ≠ "java/lang/invoke/MethodHandle" ∧ yX0_first.cls ≠ "java/lang/invoke/VarHandle" ∧ (parseMethodDescriptor yX0_first.desc).map (fun d => d.parameters.length) = some 1 := by decide +kernel
theorem hdX0_second : yX0_second.cls ≠ "java/lang/invoke/MethodHandle" ∧ yX0_second.cls ≠ "java/lang/invoke/VarHandle" ∧ (parseMethodDescriptor yX0_second.desc).map (fun d => d.parameters.length) = some 1 := by decide +kernel
theorem hdX0_report : yX0_report.cls ≠ "java/lang/invoke/MethodHandle" ∧ yX0_report.cls ≠ "java/lang/invoke/VarHandle" ∧ (parseMethodDescriptor yX0_report.desc).map (fun d => d.parameters.length) = some 1 := by decide +kernel
theorem hdX0_other : yX0_other.cls ≠ "java/lang/invoke/MethodHandle" ∧ yX0_other.cls ≠ "java/lang/invoke/VarHandle" ∧ (parseMethodDescriptor yX0_other.desc).map (fun d => d.parameters.length) = some 1 := by decide +kernel
theorem hdX0_pin : yX0_pin.cls ≠ "java/lang/invoke/MethodHandle" ∧ yX0_pin.cls ≠ "java/lang/invoke/VarHandle" ∧ (parseMethodDescriptor yX0_pin.desc).map (fun d => d.parameters.length) = some 1 := by decide +kernel
theorem hdX0_number : yX0_number.cls ≠ "java/lang/invoke/MethodHandle" ∧ yX0_number.cls ≠ "java/lang/invoke/VarHandle" ∧ (parseMethodDescriptor yX0_number.desc).map (fun d => d.parameters.length) = some 1 := by decide +kernel
theorem hdX0_has : yX0_has.cls ≠ "java/lang/invoke/MethodHandle" ∧ yX0_has.cls ≠ "java/lang/invoke/VarHandle" ∧ (parseMethodDescriptor yX0_has.desc).map (fun d => d.parameters.length) = some 2 := by decide +kernel
theorem hdX0_haveCommonReport : yX0_haveCommonReport.cls ≠ "java/lang/invoke/MethodHandle" ∧ yX0_haveCommonReport.cls ≠ "java/lang/invoke/VarHandle" ∧ (parseMethodDescriptor yX0_haveCommonReport.desc).map (fun d => d.parameters.length) = some 2 := by decide +kernel
theorem hdX0_hasAllOf : yX0_hasAllOf.cls ≠ "java/lang/invoke/MethodHandle" ∧ yX0_hasAllOf.cls ≠ "java/lang/invoke/VarHandle" ∧ (parseMethodDescriptor yX0_hasAllOf.desc).map (fun d => d.parameters.length) = some 2 := by decide +kernel
theorem hdX0_haveSameName : yX0_haveSameName.cls ≠ "java/lang/invoke/MethodHandle" ∧ yX0_haveSameName.cls ≠ "java/lang/invoke/VarHandle" ∧ (parseMethodDescriptor yX0_haveSameName.desc).map (fun d => d.parameters.length) = some 2 := by decide +kernel
theorem hdX0_width : yX0_width.cls ≠ "java/lang/invoke/MethodHandle" ∧ yX0_width.cls ≠ "java/lang/invoke/VarHandle" ∧ (parseMethodDescriptor yX0_width.desc).map (fun d => d.parameters.length) = some 1 := by decide +kernel
theorem hdX6_isOfSeries : yX6_isOfSeries.cls ≠ "java/lang/invoke/MethodHandle" ∧ yX6_isOfSeries.cls ≠ "java/lang/invoke/VarHandle" ∧ (parseMethodDescriptor yX6_isOfSeries.desc).map (fun d => d.parameters.length) = some 2 := by decide +kernel
theorem hdJ7_fill_53178 : yJ7_fill_53178.cls ≠ "java/lang/invoke/MethodHandle" ∧ yJ7_fill_53178.cls ≠ "java/lang/invoke/VarHandle" ∧ (parseMethodDescriptor yJ7_fill_53178.desc).map (fun d => d.parameters.length) = some 2 := by decide +kernel
theorem hdJ6_bitCount_0f7a4 : yJ6_bitCount_0f7a4.cls ≠ "java/lang/invoke/MethodHandle" ∧ yJ6_bitCount_0f7a4.cls ≠ "java/lang/invoke/VarHandle" ∧ (parseMethodDescriptor yJ6_bitCount_0f7a4.desc).map (fun d => d.parameters.length) = some 1 := by decide +kernel
theorem hdX6_isOfVolume : yX6_isOfVolume.cls ≠ "java/lang/invoke/MethodHandle" ∧ yX6_isOfVolume.cls ≠ "java/lang/invoke/VarHandle" ∧ (parseMethodDescriptor yX6_isOfVolume.desc).map (fun d => d.parameters.length) = some 2 := by decide +kernel
theorem hdX6_isMend : yX6_isMend.cls ≠ "java/lang/invoke/MethodHandle" ∧ yX6_isMend.cls ≠ "java/lang/invoke/VarHandle" ∧ (parseMethodDescriptor yX6_isMend.desc).map (fun d => d.parameters.length) = some 1 := by decide +kernel
def f_X0_makeFull (p0 : Int32) (p1 : Int32) (p2 : Int32) (p3 : Int32) : Option (Int64) :=
  pn_nm (((0 : Int64) ||| (p0.toInt64 <<< ((2 : Int32).toInt64 &&& 63))) ||| (p1.toInt64 <<< ((5 : Int32).toInt64 &&& 63))) fun z1 =>
  some ((z1 ||| (p2.toInt64 <<< ((8 : Int32).toInt64 &&& 63))) ||| (p3.toInt64 <<< ((22 : Int32).toInt64 &&& 63)))
set_option maxHeartbeats 4000000 in
set_option maxRecDepth 100000 in
theorem c_X0_makeFull (l : Launch) (D : va_G) (cI cJ cZ : ClassId) (sz : Nat) (p0 : Int32) (p1 : Int32) (p2 : Int32) (p3 : Int32) (rR : Int64) (hf : f_X0_makeFull p0 p1 p2 p3 = some rR) : Met l yX0_makeFull wsX0_makeFull { frames := 0, cells := 0, slots := 0, locals := 0 } (pn_Pc D cI cJ cZ [.int p0, .int p1, .int p2, .int p3] [] sz) (pn_Ql D rR [] (va_A [] sz)) 0 0 (va_A [] sz) := by
  refine pn_entry (cc := cX0_makeFull) (maxL := 6) (ret := (some .long)) (Qf := pn_Ql D rR []) (by decide) rfl (Nat.le_of_ble_eq_true rfl) ?_
  intro p e s m args below meth c A ls H locs Qm hQ hx hb hr hlocks hml hown hts hK hP hD hA hS hl
  have hl : lv_has ls 6 [(0, .int p0), (1, .int p1), (2, .int p2), (3, .int p3)] := hl
  rw [f_X0_makeFull] at hf
  refine lv_lconst (v := 0) hx hb dX0_makeFull_0 (by decide) ?_
  refine lv_iload_n hx hb dX0_makeFull_1 rfl (lv_at hl 0 rfl) ?_
  refine lv_i2l hx hb dX0_makeFull_2 rfl ?_
  refine lv_iconst (v := (2)) hx hb dX0_makeFull_3 (by decide) ?_
  refine lv_lshl hx hb dX0_makeFull_4 rfl ?_
  refine lv_lor hx hb dX0_makeFull_5 ?_
  refine lv_iload_n hx hb dX0_makeFull_6 rfl (lv_at hl 1 rfl) ?_
  refine lv_i2l hx hb dX0_makeFull_7 rfl ?_
  refine lv_iconst (v := (5)) hx hb dX0_makeFull_8 (by decide) ?_
  refine lv_lshl hx hb dX0_makeFull_9 rfl ?_
  refine lv_lor hx hb dX0_makeFull_10 ?_
  refine lv_topl (fun z1 ez1 => ?_)
  have hf := pn_nm_at ez1 hf
  refine lv_lstore (lv' := [(4, .long z1), (0, .int p0), (1, .int p1), (2, .int p2), (3, .int p3)]) hx hb dX0_makeFull_11 hl (by decide) rfl (fun ls hl => ?_)
  refine lv_lload hx hb dX0_makeFull_13 (lv_at hl 0 rfl) ?_
  refine lv_iload_n hx hb dX0_makeFull_15 rfl (lv_at hl 3 rfl) ?_
  refine lv_i2l hx hb dX0_makeFull_16 rfl ?_
  refine lv_bipush (v := (8)) hx hb dX0_makeFull_17 (by decide) ?_
  refine lv_lshl hx hb dX0_makeFull_19 rfl ?_
  refine lv_lor hx hb dX0_makeFull_20 ?_
  refine lv_iload_n hx hb dX0_makeFull_21 rfl (lv_at hl 4 rfl) ?_
  refine lv_i2l hx hb dX0_makeFull_22 rfl ?_
  refine lv_bipush (v := (22)) hx hb dX0_makeFull_23 (by decide) ?_
  refine lv_lshl hx hb dX0_makeFull_25 rfl ?_
  refine lv_lor hx hb dX0_makeFull_26 ?_
  cases hf
  rw [hQ]
  exact pn_retl hx hb hr hlocks hP hS rfl dX0_makeFull_27
def f_X0_makeShort (p0 : Int32) : Option (Int64) :=
  some ((1 : Int64) ||| (p0.toInt64 <<< ((2 : Int32).toInt64 &&& 63)))
set_option maxHeartbeats 4000000 in
set_option maxRecDepth 100000 in
theorem c_X0_makeShort (l : Launch) (D : va_G) (cI cJ cZ : ClassId) (sz : Nat) (p0 : Int32) (rR : Int64) (hf : f_X0_makeShort p0 = some rR) : Met l yX0_makeShort wsX0_makeShort { frames := 0, cells := 0, slots := 0, locals := 0 } (pn_Pc D cI cJ cZ [.int p0] [] sz) (pn_Ql D rR [] (va_A [] sz)) 0 0 (va_A [] sz) := by
  refine pn_entry (cc := cX0_makeShort) (maxL := 1) (ret := (some .long)) (Qf := pn_Ql D rR []) (by decide) rfl (Nat.le_of_ble_eq_true rfl) ?_
  intro p e s m args below meth c A ls H locs Qm hQ hx hb hr hlocks hml hown hts hK hP hD hA hS hl
  have hl : lv_has ls 1 [(0, .int p0)] := hl
  rw [f_X0_makeShort] at hf
  refine lv_lconst (v := 1) hx hb dX0_makeShort_0 (by decide) ?_
  refine lv_iload_n hx hb dX0_makeShort_1 rfl (lv_at hl 0 rfl) ?_
  refine lv_i2l hx hb dX0_makeShort_2 rfl ?_
  refine lv_iconst (v := (2)) hx hb dX0_makeShort_3 (by decide) ?_
  refine lv_lshl hx hb dX0_makeShort_4 rfl ?_
  refine lv_lor hx hb dX0_makeShort_5 ?_
  cases hf
  rw [hQ]
  exact pn_retl hx hb hr hlocks hP hS rfl dX0_makeShort_6
def f_X0_makeSame  : Option (Int64) :=
  some (2 : Int64)
set_option maxHeartbeats 4000000 in
set_option maxRecDepth 100000 in
theorem c_X0_makeSame (l : Launch) (D : va_G) (cI cJ cZ : ClassId) (sz : Nat) (rR : Int64) (hf : f_X0_makeSame  = some rR) : Met l yX0_makeSame wsX0_makeSame { frames := 0, cells := 0, slots := 0, locals := 0 } (pn_Pc D cI cJ cZ [] [] sz) (pn_Ql D rR [] (va_A [] sz)) 0 0 (va_A [] sz) := by
  refine pn_entry (cc := cX0_makeSame) (maxL := 0) (ret := (some .long)) (Qf := pn_Ql D rR []) (by decide) rfl (Nat.le_of_ble_eq_true rfl) ?_
  intro p e s m args below meth c A ls H locs Qm hQ hx hb hr hlocks hml hown hts hK hP hD hA hS hl
  have hl : lv_has ls 0 [] := hl
  have kl_11 := hts (.constantLong RX0 11 (2)) (by decide +kernel)
  rw [f_X0_makeSame] at hf
  refine lv_ldc2 hx hb hown kl_11 dX0_makeSame_0 ?_
  cases hf
  rw [hQ]
  exact pn_retl hx hb hr hlocks hP hS rfl dX0_makeSame_3
def f_X0_makeAbove (p0 : Int32) (p1 : Int32) : Option (Int64) :=
  some (((3 : Int64) ||| (p1.toInt64 <<< ((2 : Int32).toInt64 &&& 63))) ||| (p0.toInt64 <<< ((43 : Int32).toInt64 &&& 63)))
set_option maxHeartbeats 4000000 in
set_option maxRecDepth 100000 in
theorem c_X0_makeAbove (l : Launch) (D : va_G) (cI cJ cZ : ClassId) (sz : Nat) (p0 : Int32) (p1 : Int32) (rR : Int64) (hf : f_X0_makeAbove p0 p1 = some rR) : Met l yX0_makeAbove wsX0_makeAbove { frames := 0, cells := 0, slots := 0, locals := 0 } (pn_Pc D cI cJ cZ [.int p0, .int p1] [] sz) (pn_Ql D rR [] (va_A [] sz)) 0 0 (va_A [] sz) := by
  refine pn_entry (cc := cX0_makeAbove) (maxL := 2) (ret := (some .long)) (Qf := pn_Ql D rR []) (by decide) rfl (Nat.le_of_ble_eq_true rfl) ?_
  intro p e s m args below meth c A ls H locs Qm hQ hx hb hr hlocks hml hown hts hK hP hD hA hS hl
  have hl : lv_has ls 2 [(0, .int p0), (1, .int p1)] := hl
  have kl_13 := hts (.constantLong RX0 13 (3)) (by decide +kernel)
  rw [f_X0_makeAbove] at hf
  refine lv_ldc2 hx hb hown kl_13 dX0_makeAbove_0 ?_
  refine lv_iload_n hx hb dX0_makeAbove_3 rfl (lv_at hl 1 rfl) ?_
  refine lv_i2l hx hb dX0_makeAbove_4 rfl ?_
  refine lv_iconst (v := (2)) hx hb dX0_makeAbove_5 (by decide) ?_
  refine lv_lshl hx hb dX0_makeAbove_6 rfl ?_
  refine lv_lor hx hb dX0_makeAbove_7 ?_
  refine lv_iload_n hx hb dX0_makeAbove_8 rfl (lv_at hl 0 rfl) ?_
  refine lv_i2l hx hb dX0_makeAbove_9 rfl ?_
  refine lv_bipush (v := (43)) hx hb dX0_makeAbove_10 (by decide) ?_
  refine lv_lshl hx hb dX0_makeAbove_12 rfl ?_
  refine lv_lor hx hb dX0_makeAbove_13 ?_
  cases hf
  rw [hQ]
  exact pn_retl hx hb hr hlocks hP hS rfl dX0_makeAbove_14
def f_X0_withPin (p0 : Int64) (p2 : Int32) : Option (Int64) :=
  some ((p0 &&& (-8727373545473 : Int64)) ||| (p2.toInt64 <<< ((36 : Int32).toInt64 &&& 63)))
set_option maxHeartbeats 4000000 in
set_option maxRecDepth 100000 in
theorem c_X0_withPin (l : Launch) (D : va_G) (cI cJ cZ : ClassId) (sz : Nat) (p0 : Int64) (p2 : Int32) (rR : Int64) (hf : f_X0_withPin p0 p2 = some rR) : Met l yX0_withPin wsX0_withPin { frames := 0, cells := 0, slots := 0, locals := 0 } (pn_Pc D cI cJ cZ [.long p0, .int p2] [] sz) (pn_Ql D rR [] (va_A [] sz)) 0 0 (va_A [] sz) := by
  refine pn_entry (cc := cX0_withPin) (maxL := 3) (ret := (some .long)) (Qf := pn_Ql D rR []) (by decide) rfl (Nat.le_of_ble_eq_true rfl) ?_
  intro p e s m args below meth c A ls H locs Qm hQ hx hb hr hlocks hml hown hts hK hP hD hA hS hl
  have hl : lv_has ls 3 [(0, .long p0), (2, .int p2)] := hl
  have kl_15 := hts (.constantLong RX0 15 (-8727373545473)) (by decide +kernel)
  rw [f_X0_withPin] at hf
  refine lv_lload_n hx hb dX0_withPin_0 rfl (lv_at hl 0 rfl) ?_
  refine lv_ldc2 hx hb hown kl_15 dX0_withPin_1 ?_
  refine lv_land hx hb dX0_withPin_4 ?_
  refine lv_iload_n hx hb dX0_withPin_5 rfl (lv_at hl 1 rfl) ?_
  refine lv_i2l hx hb dX0_withPin_6 rfl ?_
  refine lv_bipush (v := (36)) hx hb dX0_withPin_7 (by decide) ?_
  refine lv_lshl hx hb dX0_withPin_9 rfl ?_
  refine lv_lor hx hb dX0_withPin_10 ?_
  cases hf
  rw [hQ]
  exact pn_retl hx hb hr hlocks hP hS rfl dX0_withPin_11
def f_X0_withNumber (p0 : Int64) (p2 : Int32) : Option (Int64) :=
  some ((p0 &&& (-131941395333121 : Int64)) ||| (p2.toInt64 <<< ((43 : Int32).toInt64 &&& 63)))
set_option maxHeartbeats 4000000 in
set_option maxRecDepth 100000 in
theorem c_X0_withNumber (l : Launch) (D : va_G) (cI cJ cZ : ClassId) (sz : Nat) (p0 : Int64) (p2 : Int32) (rR : Int64) (hf : f_X0_withNumber p0 p2 = some rR) : Met l yX0_withNumber wsX0_withNumber { frames := 0, cells := 0, slots := 0, locals := 0 } (pn_Pc D cI cJ cZ [.long p0, .int p2] [] sz) (pn_Ql D rR [] (va_A [] sz)) 0 0 (va_A [] sz) := by
  refine pn_entry (cc := cX0_withNumber) (maxL := 3) (ret := (some .long)) (Qf := pn_Ql D rR []) (by decide) rfl (Nat.le_of_ble_eq_true rfl) ?_
  intro p e s m args below meth c A ls H locs Qm hQ hx hb hr hlocks hml hown hts hK hP hD hA hS hl
  have hl : lv_has ls 3 [(0, .long p0), (2, .int p2)] := hl
  have kl_17 := hts (.constantLong RX0 17 (-131941395333121)) (by decide +kernel)
  rw [f_X0_withNumber] at hf
  refine lv_lload_n hx hb dX0_withNumber_0 rfl (lv_at hl 0 rfl) ?_
  refine lv_ldc2 hx hb hown kl_17 dX0_withNumber_1 ?_
  refine lv_land hx hb dX0_withNumber_4 ?_
  refine lv_iload_n hx hb dX0_withNumber_5 rfl (lv_at hl 1 rfl) ?_
  refine lv_i2l hx hb dX0_withNumber_6 rfl ?_
  refine lv_bipush (v := (43)) hx hb dX0_withNumber_7 (by decide) ?_
  refine lv_lshl hx hb dX0_withNumber_9 rfl ?_
  refine lv_lor hx hb dX0_withNumber_10 ?_
  cases hf
  rw [hQ]
  exact pn_retl hx hb hr hlocks hP hS rfl dX0_withNumber_11
def f_X0_form (p0 : Int64) : Option (Int32) :=
  some (p0.toInt32 &&& (3 : Int32))
set_option maxHeartbeats 4000000 in
set_option maxRecDepth 100000 in
theorem c_X0_form (l : Launch) (D : va_G) (cI cJ cZ : ClassId) (sz : Nat) (p0 : Int64) (rR : Int32) (hf : f_X0_form p0 = some rR) : Met l yX0_form wsX0_form { frames := 0, cells := 0, slots := 0, locals := 0 } (pn_Pc D cI cJ cZ [.long p0] [] sz) (pn_Qi D rR [] (va_A [] sz)) 0 0 (va_A [] sz) := by
  refine pn_entry (cc := cX0_form) (maxL := 2) (ret := (some .int)) (Qf := pn_Qi D rR []) (by decide) rfl (Nat.le_of_ble_eq_true rfl) ?_
  intro p e s m args below meth c A ls H locs Qm hQ hx hb hr hlocks hml hown hts hK hP hD hA hS hl
  have hl : lv_has ls 2 [(0, .long p0)] := hl
  rw [f_X0_form] at hf
  refine lv_lload_n hx hb dX0_form_0 rfl (lv_at hl 0 rfl) ?_
  refine lv_l2i hx hb dX0_form_1 rfl ?_
  refine lv_iconst (v := (3)) hx hb dX0_form_2 (by decide) ?_
  refine lv_iand hx hb dX0_form_3 ?_
  cases hf
  rw [hQ]
  exact pn_reti hx hb hr hlocks hP hS rfl dX0_form_4
def f_X0_first (p0 : Int64) : Option (Int32) :=
  some (((p0 >>> ((2 : Int32).toInt64 &&& 63)).toInt32) &&& (7 : Int32))
set_option maxHeartbeats 4000000 in
set_option maxRecDepth 100000 in
theorem c_X0_first (l : Launch) (D : va_G) (cI cJ cZ : ClassId) (sz : Nat) (p0 : Int64) (rR : Int32) (hf : f_X0_first p0 = some rR) : Met l yX0_first wsX0_first { frames := 0, cells := 0, slots := 0, locals := 0 } (pn_Pc D cI cJ cZ [.long p0] [] sz) (pn_Qi D rR [] (va_A [] sz)) 0 0 (va_A [] sz) := by
  refine pn_entry (cc := cX0_first) (maxL := 2) (ret := (some .int)) (Qf := pn_Qi D rR []) (by decide) rfl (Nat.le_of_ble_eq_true rfl) ?_
  intro p e s m args below meth c A ls H locs Qm hQ hx hb hr hlocks hml hown hts hK hP hD hA hS hl
  have hl : lv_has ls 2 [(0, .long p0)] := hl
  rw [f_X0_first] at hf
  refine lv_lload_n hx hb dX0_first_0 rfl (lv_at hl 0 rfl) ?_
  refine lv_iconst (v := (2)) hx hb dX0_first_1 (by decide) ?_
  refine lv_lshr hx hb dX0_first_2 rfl ?_
  refine lv_l2i hx hb dX0_first_3 rfl ?_
  refine lv_bipush (v := (7)) hx hb dX0_first_4 (by decide) ?_
  refine lv_iand hx hb dX0_first_6 ?_
  cases hf
  rw [hQ]
  exact pn_reti hx hb hr hlocks hP hS rfl dX0_first_7
def f_X0_second (p0 : Int64) : Option (Int32) :=
  some (((p0 >>> ((5 : Int32).toInt64 &&& 63)).toInt32) &&& (7 : Int32))
set_option maxHeartbeats 4000000 in
set_option maxRecDepth 100000 in
theorem c_X0_second (l : Launch) (D : va_G) (cI cJ cZ : ClassId) (sz : Nat) (p0 : Int64) (rR : Int32) (hf : f_X0_second p0 = some rR) : Met l yX0_second wsX0_second { frames := 0, cells := 0, slots := 0, locals := 0 } (pn_Pc D cI cJ cZ [.long p0] [] sz) (pn_Qi D rR [] (va_A [] sz)) 0 0 (va_A [] sz) := by
  refine pn_entry (cc := cX0_second) (maxL := 2) (ret := (some .int)) (Qf := pn_Qi D rR []) (by decide) rfl (Nat.le_of_ble_eq_true rfl) ?_
  intro p e s m args below meth c A ls H locs Qm hQ hx hb hr hlocks hml hown hts hK hP hD hA hS hl
  have hl : lv_has ls 2 [(0, .long p0)] := hl
  rw [f_X0_second] at hf
  refine lv_lload_n hx hb dX0_second_0 rfl (lv_at hl 0 rfl) ?_
  refine lv_iconst (v := (5)) hx hb dX0_second_1 (by decide) ?_
  refine lv_lshr hx hb dX0_second_2 rfl ?_
  refine lv_l2i hx hb dX0_second_3 rfl ?_
  refine lv_bipush (v := (7)) hx hb dX0_second_4 (by decide) ?_
  refine lv_iand hx hb dX0_second_6 ?_
  cases hf
  rw [hQ]
  exact pn_reti hx hb hr hlocks hP hS rfl dX0_second_7
def f_X0_report (p0 : Int64) : Option (Int32) :=
  some (((p0 >>> ((8 : Int32).toInt64 &&& 63)).toInt32) &&& (16383 : Int32))
set_option maxHeartbeats 4000000 in
set_option maxRecDepth 100000 in
theorem c_X0_report (l : Launch) (D : va_G) (cI cJ cZ : ClassId) (sz : Nat) (p0 : Int64) (rR : Int32) (hf : f_X0_report p0 = some rR) : Met l yX0_report wsX0_report { frames := 0, cells := 0, slots := 0, locals := 0 } (pn_Pc D cI cJ cZ [.long p0] [] sz) (pn_Qi D rR [] (va_A [] sz)) 0 0 (va_A [] sz) := by
  refine pn_entry (cc := cX0_report) (maxL := 2) (ret := (some .int)) (Qf := pn_Qi D rR []) (by decide) rfl (Nat.le_of_ble_eq_true rfl) ?_
  intro p e s m args below meth c A ls H locs Qm hQ hx hb hr hlocks hml hown hts hK hP hD hA hS hl
  have hl : lv_has ls 2 [(0, .long p0)] := hl
  rw [f_X0_report] at hf
  refine lv_lload_n hx hb dX0_report_0 rfl (lv_at hl 0 rfl) ?_
  refine lv_bipush (v := (8)) hx hb dX0_report_1 (by decide) ?_
  refine lv_lshr hx hb dX0_report_3 rfl ?_
  refine lv_l2i hx hb dX0_report_4 rfl ?_
  refine lv_sipush (v := (16383)) hx hb dX0_report_5 (by decide) ?_
  refine lv_iand hx hb dX0_report_8 ?_
  cases hf
  rw [hQ]
  exact pn_reti hx hb hr hlocks hP hS rfl dX0_report_9
def f_X0_other (p0 : Int64) : Option (Int32) :=
  some (((p0 >>> ((22 : Int32).toInt64 &&& 63)).toInt32) &&& (16383 : Int32))
set_option maxHeartbeats 4000000 in
set_option maxRecDepth 100000 in
theorem c_X0_other (l : Launch) (D : va_G) (cI cJ cZ : ClassId) (sz : Nat) (p0 : Int64) (rR : Int32) (hf : f_X0_other p0 = some rR) : Met l yX0_other wsX0_other { frames := 0, cells := 0, slots := 0, locals := 0 } (pn_Pc D cI cJ cZ [.long p0] [] sz) (pn_Qi D rR [] (va_A [] sz)) 0 0 (va_A [] sz) := by
  refine pn_entry (cc := cX0_other) (maxL := 2) (ret := (some .int)) (Qf := pn_Qi D rR []) (by decide) rfl (Nat.le_of_ble_eq_true rfl) ?_
  intro p e s m args below meth c A ls H locs Qm hQ hx hb hr hlocks hml hown hts hK hP hD hA hS hl
  have hl : lv_has ls 2 [(0, .long p0)] := hl
  rw [f_X0_other] at hf
  refine lv_lload_n hx hb dX0_other_0 rfl (lv_at hl 0 rfl) ?_
  refine lv_bipush (v := (22)) hx hb dX0_other_1 (by decide) ?_
  refine lv_lshr hx hb dX0_other_3 rfl ?_
  refine lv_l2i hx hb dX0_other_4 rfl ?_
  refine lv_sipush (v := (16383)) hx hb dX0_other_5 (by decide) ?_
  refine lv_iand hx hb dX0_other_8 ?_
  cases hf
  rw [hQ]
  exact pn_reti hx hb hr hlocks hP hS rfl dX0_other_9
def f_X0_pin (p0 : Int64) : Option (Int32) :=
  some (((p0 >>> ((36 : Int32).toInt64 &&& 63)).toInt32) &&& (127 : Int32))
set_option maxHeartbeats 4000000 in
set_option maxRecDepth 100000 in
theorem c_X0_pin (l : Launch) (D : va_G) (cI cJ cZ : ClassId) (sz : Nat) (p0 : Int64) (rR : Int32) (hf : f_X0_pin p0 = some rR) : Met l yX0_pin wsX0_pin { frames := 0, cells := 0, slots := 0, locals := 0 } (pn_Pc D cI cJ cZ [.long p0] [] sz) (pn_Qi D rR [] (va_A [] sz)) 0 0 (va_A [] sz) := by
  refine pn_entry (cc := cX0_pin) (maxL := 2) (ret := (some .int)) (Qf := pn_Qi D rR []) (by decide) rfl (Nat.le_of_ble_eq_true rfl) ?_
  intro p e s m args below meth c A ls H locs Qm hQ hx hb hr hlocks hml hown hts hK hP hD hA hS hl
  have hl : lv_has ls 2 [(0, .long p0)] := hl
  rw [f_X0_pin] at hf
  refine lv_lload_n hx hb dX0_pin_0 rfl (lv_at hl 0 rfl) ?_
  refine lv_bipush (v := (36)) hx hb dX0_pin_1 (by decide) ?_
  refine lv_lshr hx hb dX0_pin_3 rfl ?_
  refine lv_l2i hx hb dX0_pin_4 rfl ?_
  refine lv_bipush (v := (127)) hx hb dX0_pin_5 (by decide) ?_
  refine lv_iand hx hb dX0_pin_7 ?_
  cases hf
  rw [hQ]
  exact pn_reti hx hb hr hlocks hP hS rfl dX0_pin_8
def f_X0_number (p0 : Int64) : Option (Int32) :=
  some (((p0 >>> ((43 : Int32).toInt64 &&& 63)).toInt32) &&& (15 : Int32))
set_option maxHeartbeats 4000000 in
set_option maxRecDepth 100000 in
theorem c_X0_number (l : Launch) (D : va_G) (cI cJ cZ : ClassId) (sz : Nat) (p0 : Int64) (rR : Int32) (hf : f_X0_number p0 = some rR) : Met l yX0_number wsX0_number { frames := 0, cells := 0, slots := 0, locals := 0 } (pn_Pc D cI cJ cZ [.long p0] [] sz) (pn_Qi D rR [] (va_A [] sz)) 0 0 (va_A [] sz) := by
  refine pn_entry (cc := cX0_number) (maxL := 2) (ret := (some .int)) (Qf := pn_Qi D rR []) (by decide) rfl (Nat.le_of_ble_eq_true rfl) ?_
  intro p e s m args below meth c A ls H locs Qm hQ hx hb hr hlocks hml hown hts hK hP hD hA hS hl
  have hl : lv_has ls 2 [(0, .long p0)] := hl
  rw [f_X0_number] at hf
  refine lv_lload_n hx hb dX0_number_0 rfl (lv_at hl 0 rfl) ?_
  refine lv_bipush (v := (43)) hx hb dX0_number_1 (by decide) ?_
  refine lv_lshr hx hb dX0_number_3 rfl ?_
  refine lv_l2i hx hb dX0_number_4 rfl ?_
  refine lv_bipush (v := (15)) hx hb dX0_number_5 (by decide) ?_
  refine lv_iand hx hb dX0_number_7 ?_
  cases hf
  rw [hQ]
  exact pn_reti hx hb hr hlocks hP hS rfl dX0_number_8
def f_X0_has (p0 : Int64) (p2 : Int32) : Option (Int32) :=
  if p2 = 0 then
  some (0 : Int32)
  else
  pn_bd1 (f_X0_report p0) fun ru2 =>
  if ru2 = p2 then
  some (1 : Int32)
  else
  pn_bd1 (f_X0_other p0) fun ru4 =>
  if ¬ ru4 = p2 then
  some (0 : Int32)
  else
  some (1 : Int32)
set_option maxHeartbeats 4000000 in
set_option maxRecDepth 100000 in
theorem c_X0_has (l : Launch) (D : va_G) (cI cJ cZ : ClassId) (sz : Nat) (p0 : Int64) (p2 : Int32) (rR : Int32) (hf : f_X0_has p0 p2 = some rR) : Met l yX0_has wsX0_has { frames := 1, cells := 0, slots := 0, locals := 21 } (pn_Pc D cI cJ cZ [.long p0, .int p2] [] sz) (pn_Qi D rR [] (va_A [] sz)) 0 0 (va_A [] sz) := by
  refine pn_entry (cc := cX0_has) (maxL := 3) (ret := (some .boolean)) (Qf := pn_Qi D rR []) (by decide) rfl (Nat.le_of_ble_eq_true rfl) ?_
  intro p e s m args below meth c A ls H locs Qm hQ hx hb hr hlocks hml hown hts hK hP hD hA hS hl
  have hl : lv_has ls 3 [(0, .long p0), (2, .int p2)] := hl
  rw [f_X0_has] at hf
  refine lv_iload_n hx hb dX0_has_0 rfl (lv_at hl 1 rfl) ?_
  refine lv_if_eq (tgt := 24) hx hb dX0_has_1 (by decide) (fun c1 => ?_) (fun c1 => ?_)
  · have hf := pn_ifp c1 hf
    refine lv_iconst (v := (0)) hx hb dX0_has_24 (by decide) ?_
    cases hf
    rw [hQ]
    exact pn_retz hx hb hr hlocks hP hS rfl rfl dX0_has_25
  · have hf := pn_ifn c1 hf
    refine lv_lload_n hx hb dX0_has_4 rfl (lv_at hl 0 rfl) ?_
    obtain ⟨ru2, hu2, hf⟩ := pn_bd1_at hf
    refine pn_calli [] (va_runS (As := [.long p0]) (rest := []) ⟨hx, hb, hml, hown, hts⟩ (c_X0_report l D cI cJ cZ H.size p0 ru2 hu2) (va_cwS 1 hts gX0_has_X0_report rfl rfl rfl hdX0_report ⟨Nat.le_of_ble_eq_true rfl, Nat.le_of_ble_eq_true rfl⟩) (pn_preS [] hP (hD.addr rfl) hK rfl rfl) rfl rfl hl.1 rfl (lv_room (Nat.le_of_ble_eq_true rfl)) dX0_has_5 ⟨Nat.zero_le _, Nat.zero_le _⟩) hP (hD.addr rfl) hS hA rfl rfl rfl (fun H locs (hP : va_P D vwCl [] H) _ hS => ?_)
    refine lv_iload_n hx hb dX0_has_8 rfl (lv_at hl 1 rfl) ?_
    refine lv_icmp_eq (tgt := 20) hx hb dX0_has_9 (by decide) (fun c3 => ?_) (fun c3 => ?_)
    · have hf := pn_ifp c3 hf
      refine lv_iconst (v := (1)) hx hb dX0_has_20 (by decide) ?_
      refine lv_goto (tgt := 25) hx hb dX0_has_21 (by decide) ?_
      cases hf
      rw [hQ]
      exact pn_retz hx hb hr hlocks hP hS rfl rfl dX0_has_25
    · have hf := pn_ifn c3 hf
      refine lv_lload_n hx hb dX0_has_12 rfl (lv_at hl 0 rfl) ?_
      obtain ⟨ru4, hu4, hf⟩ := pn_bd1_at hf
      refine pn_calli [] (va_runS (As := [.long p0]) (rest := []) ⟨hx, hb, hml, hown, hts⟩ (c_X0_other l D cI cJ cZ H.size p0 ru4 hu4) (va_cwS 1 hts gX0_has_X0_other rfl rfl rfl hdX0_other ⟨Nat.le_of_ble_eq_true rfl, Nat.le_of_ble_eq_true rfl⟩) (pn_preS [] hP (hD.addr rfl) hK rfl rfl) rfl rfl hl.1 rfl (lv_room (Nat.le_of_ble_eq_true rfl)) dX0_has_13 ⟨Nat.zero_le _, Nat.zero_le _⟩) hP (hD.addr rfl) hS hA rfl rfl rfl (fun H locs (hP : va_P D vwCl [] H) _ hS => ?_)
      refine lv_iload_n hx hb dX0_has_16 rfl (lv_at hl 1 rfl) ?_
      refine lv_icmp_ne (tgt := 24) hx hb dX0_has_17 (by decide) (fun c5 => ?_) (fun c5 => ?_)
      · have hf := pn_ifp c5 hf
        refine lv_iconst (v := (0)) hx hb dX0_has_24 (by decide) ?_
        cases hf
        rw [hQ]
        exact pn_retz hx hb hr hlocks hP hS rfl rfl dX0_has_25
      · have hf := pn_ifq c5 hf
        refine lv_iconst (v := (1)) hx hb dX0_has_20 (by decide) ?_
        refine lv_goto (tgt := 25) hx hb dX0_has_21 (by decide) ?_
        cases hf
        rw [hQ]
        exact pn_retz hx hb hr hlocks hP hS rfl rfl dX0_has_25
def f_X0_haveCommonReport (p0 : Int64) (p2 : Int64) : Option (Int32) :=
  pn_bd1 (f_X0_other p0) fun ru1 =>
  pn_bd1 (f_X0_report p0) fun ru2 =>
  pn_bd1 (f_X0_report p2) fun ru3 =>
  if ru2 = ru3 then
  some (1 : Int32)
  else
  pn_bd1 (f_X0_report p0) fun ru5 =>
  pn_bd1 (f_X0_other p2) fun ru6 =>
  if ¬ ru5 = ru6 then
  if ru1 = 0 then
  some (0 : Int32)
  else
  pn_bd1 (f_X0_report p2) fun ru9 =>
  if ru1 = ru9 then
  some (1 : Int32)
  else
  pn_bd1 (f_X0_other p2) fun ru11 =>
  if ¬ ru1 = ru11 then
  some (0 : Int32)
  else
  some (1 : Int32)
  else
  some (1 : Int32)
set_option maxHeartbeats 4000000 in
set_option maxRecDepth 100000 in
theorem c_X0_haveCommonReport (l : Launch) (D : va_G) (cI cJ cZ : ClassId) (sz : Nat) (p0 : Int64) (p2 : Int64) (rR : Int32) (hf : f_X0_haveCommonReport p0 p2 = some rR) : Met l yX0_haveCommonReport wsX0_haveCommonReport { frames := 1, cells := 0, slots := 0, locals := 21 } (pn_Pc D cI cJ cZ [.long p0, .long p2] [] sz) (pn_Qi D rR [] (va_A [] sz)) 0 0 (va_A [] sz) := by
  refine pn_entry (cc := cX0_haveCommonReport) (maxL := 5) (ret := (some .boolean)) (Qf := pn_Qi D rR []) (by decide) rfl (Nat.le_of_ble_eq_true rfl) ?_
  intro p e s m args below meth c A ls H locs Qm hQ hx hb hr hlocks hml hown hts hK hP hD hA hS hl
  have hl : lv_has ls 5 [(0, .long p0), (2, .long p2)] := hl
  rw [f_X0_haveCommonReport] at hf
  refine lv_lload_n hx hb dX0_haveCommonReport_0 rfl (lv_at hl 0 rfl) ?_
  obtain ⟨ru1, hu1, hf⟩ := pn_bd1_at hf
  refine pn_calli [] (va_runS (As := [.long p0]) (rest := []) ⟨hx, hb, hml, hown, hts⟩ (c_X0_other l D cI cJ cZ H.size p0 ru1 hu1) (va_cwS 1 hts gX0_haveCommonReport_X0_other rfl rfl rfl hdX0_other ⟨Nat.le_of_ble_eq_true rfl, Nat.le_of_ble_eq_true rfl⟩) (pn_preS [] hP (hD.addr rfl) hK rfl rfl) rfl rfl hl.1 rfl (lv_room (Nat.le_of_ble_eq_true rfl)) dX0_haveCommonReport_1 ⟨Nat.zero_le _, Nat.zero_le _⟩) hP (hD.addr rfl) hS hA rfl rfl rfl (fun H locs (hP : va_P D vwCl [] H) _ hS => ?_)
  refine lv_istore (lv' := [(4, .int ru1), (0, .long p0), (2, .long p2)]) hx hb dX0_haveCommonReport_4 hl (by decide) rfl (fun ls hl => ?_)
  refine lv_lload_n hx hb dX0_haveCommonReport_6 rfl (lv_at hl 1 rfl) ?_
  obtain ⟨ru2, hu2, hf⟩ := pn_bd1_at hf
  refine pn_calli [] (va_runS (As := [.long p0]) (rest := []) ⟨hx, hb, hml, hown, hts⟩ (c_X0_report l D cI cJ cZ H.size p0 ru2 hu2) (va_cwS 1 hts gX0_haveCommonReport_X0_report rfl rfl rfl hdX0_report ⟨Nat.le_of_ble_eq_true rfl, Nat.le_of_ble_eq_true rfl⟩) (pn_preS [] hP (hD.addr rfl) hK rfl rfl) rfl rfl hl.1 rfl (lv_room (Nat.le_of_ble_eq_true rfl)) dX0_haveCommonReport_7 ⟨Nat.zero_le _, Nat.zero_le _⟩) hP (hD.addr rfl) hS hA rfl rfl rfl (fun H locs (hP : va_P D vwCl [] H) _ hS => ?_)
  refine lv_lload_n hx hb dX0_haveCommonReport_10 rfl (lv_at hl 2 rfl) ?_
  obtain ⟨ru3, hu3, hf⟩ := pn_bd1_at hf
  refine pn_calli [] (va_runS (As := [.long p2]) (rest := [.int ru2]) ⟨hx, hb, hml, hown, hts⟩ (c_X0_report l D cI cJ cZ H.size p2 ru3 hu3) (va_cwS 1 hts gX0_haveCommonReport_X0_report rfl rfl rfl hdX0_report ⟨Nat.le_of_ble_eq_true rfl, Nat.le_of_ble_eq_true rfl⟩) (pn_preS [] hP (hD.addr rfl) hK rfl rfl) rfl rfl hl.1 rfl (lv_room (Nat.le_of_ble_eq_true rfl)) dX0_haveCommonReport_11 ⟨Nat.zero_le _, Nat.zero_le _⟩) hP (hD.addr rfl) hS hA rfl rfl rfl (fun H locs (hP : va_P D vwCl [] H) _ hS => ?_)
  refine lv_icmp_eq (tgt := 28) hx hb dX0_haveCommonReport_14 (by decide) (fun c4 => ?_) (fun c4 => ?_)
  · have hf := pn_ifp c4 hf
    refine lv_iconst (v := (1)) hx hb dX0_haveCommonReport_28 (by decide) ?_
    cases hf
    rw [hQ]
    exact pn_retz hx hb hr hlocks hP hS rfl rfl dX0_haveCommonReport_29
  · have hf := pn_ifn c4 hf
    refine lv_lload_n hx hb dX0_haveCommonReport_17 rfl (lv_at hl 1 rfl) ?_
    obtain ⟨ru5, hu5, hf⟩ := pn_bd1_at hf
    refine pn_calli [] (va_runS (As := [.long p0]) (rest := []) ⟨hx, hb, hml, hown, hts⟩ (c_X0_report l D cI cJ cZ H.size p0 ru5 hu5) (va_cwS 1 hts gX0_haveCommonReport_X0_report rfl rfl rfl hdX0_report ⟨Nat.le_of_ble_eq_true rfl, Nat.le_of_ble_eq_true rfl⟩) (pn_preS [] hP (hD.addr rfl) hK rfl rfl) rfl rfl hl.1 rfl (lv_room (Nat.le_of_ble_eq_true rfl)) dX0_haveCommonReport_18 ⟨Nat.zero_le _, Nat.zero_le _⟩) hP (hD.addr rfl) hS hA rfl rfl rfl (fun H locs (hP : va_P D vwCl [] H) _ hS => ?_)
    refine lv_lload_n hx hb dX0_haveCommonReport_21 rfl (lv_at hl 2 rfl) ?_
    obtain ⟨ru6, hu6, hf⟩ := pn_bd1_at hf
    refine pn_calli [] (va_runS (As := [.long p2]) (rest := [.int ru5]) ⟨hx, hb, hml, hown, hts⟩ (c_X0_other l D cI cJ cZ H.size p2 ru6 hu6) (va_cwS 1 hts gX0_haveCommonReport_X0_other rfl rfl rfl hdX0_other ⟨Nat.le_of_ble_eq_true rfl, Nat.le_of_ble_eq_true rfl⟩) (pn_preS [] hP (hD.addr rfl) hK rfl rfl) rfl rfl hl.1 rfl (lv_room (Nat.le_of_ble_eq_true rfl)) dX0_haveCommonReport_22 ⟨Nat.zero_le _, Nat.zero_le _⟩) hP (hD.addr rfl) hS hA rfl rfl rfl (fun H locs (hP : va_P D vwCl [] H) _ hS => ?_)
    refine lv_icmp_ne (tgt := 30) hx hb dX0_haveCommonReport_25 (by decide) (fun c7 => ?_) (fun c7 => ?_)
    · have hf := pn_ifp c7 hf
      refine lv_iload hx hb dX0_haveCommonReport_30 (lv_at hl 0 rfl) ?_
      refine lv_if_eq (tgt := 57) hx hb dX0_haveCommonReport_32 (by decide) (fun c8 => ?_) (fun c8 => ?_)
      · have hf := pn_ifp c8 hf
        refine lv_iconst (v := (0)) hx hb dX0_haveCommonReport_57 (by decide) ?_
        cases hf
        rw [hQ]
        exact pn_retz hx hb hr hlocks hP hS rfl rfl dX0_haveCommonReport_58
      · have hf := pn_ifn c8 hf
        refine lv_iload hx hb dX0_haveCommonReport_35 (lv_at hl 0 rfl) ?_
        refine lv_lload_n hx hb dX0_haveCommonReport_37 rfl (lv_at hl 2 rfl) ?_
        obtain ⟨ru9, hu9, hf⟩ := pn_bd1_at hf
        refine pn_calli [] (va_runS (As := [.long p2]) (rest := [.int ru1]) ⟨hx, hb, hml, hown, hts⟩ (c_X0_report l D cI cJ cZ H.size p2 ru9 hu9) (va_cwS 1 hts gX0_haveCommonReport_X0_report rfl rfl rfl hdX0_report ⟨Nat.le_of_ble_eq_true rfl, Nat.le_of_ble_eq_true rfl⟩) (pn_preS [] hP (hD.addr rfl) hK rfl rfl) rfl rfl hl.1 rfl (lv_room (Nat.le_of_ble_eq_true rfl)) dX0_haveCommonReport_38 ⟨Nat.zero_le _, Nat.zero_le _⟩) hP (hD.addr rfl) hS hA rfl rfl rfl (fun H locs (hP : va_P D vwCl [] H) _ hS => ?_)
        refine lv_icmp_eq (tgt := 53) hx hb dX0_haveCommonReport_41 (by decide) (fun c10 => ?_) (fun c10 => ?_)
        · have hf := pn_ifp c10 hf
          refine lv_iconst (v := (1)) hx hb dX0_haveCommonReport_53 (by decide) ?_
          refine lv_goto (tgt := 58) hx hb dX0_haveCommonReport_54 (by decide) ?_
          cases hf
          rw [hQ]
          exact pn_retz hx hb hr hlocks hP hS rfl rfl dX0_haveCommonReport_58
        · have hf := pn_ifn c10 hf
          refine lv_iload hx hb dX0_haveCommonReport_44 (lv_at hl 0 rfl) ?_
          refine lv_lload_n hx hb dX0_haveCommonReport_46 rfl (lv_at hl 2 rfl) ?_
          obtain ⟨ru11, hu11, hf⟩ := pn_bd1_at hf
          refine pn_calli [] (va_runS (As := [.long p2]) (rest := [.int ru1]) ⟨hx, hb, hml, hown, hts⟩ (c_X0_other l D cI cJ cZ H.size p2 ru11 hu11) (va_cwS 1 hts gX0_haveCommonReport_X0_other rfl rfl rfl hdX0_other ⟨Nat.le_of_ble_eq_true rfl, Nat.le_of_ble_eq_true rfl⟩) (pn_preS [] hP (hD.addr rfl) hK rfl rfl) rfl rfl hl.1 rfl (lv_room (Nat.le_of_ble_eq_true rfl)) dX0_haveCommonReport_47 ⟨Nat.zero_le _, Nat.zero_le _⟩) hP (hD.addr rfl) hS hA rfl rfl rfl (fun H locs (hP : va_P D vwCl [] H) _ hS => ?_)
          refine lv_icmp_ne (tgt := 57) hx hb dX0_haveCommonReport_50 (by decide) (fun c12 => ?_) (fun c12 => ?_)
          · have hf := pn_ifp c12 hf
            refine lv_iconst (v := (0)) hx hb dX0_haveCommonReport_57 (by decide) ?_
            cases hf
            rw [hQ]
            exact pn_retz hx hb hr hlocks hP hS rfl rfl dX0_haveCommonReport_58
          · have hf := pn_ifq c12 hf
            refine lv_iconst (v := (1)) hx hb dX0_haveCommonReport_53 (by decide) ?_
            refine lv_goto (tgt := 58) hx hb dX0_haveCommonReport_54 (by decide) ?_
            cases hf
            rw [hQ]
            exact pn_retz hx hb hr hlocks hP hS rfl rfl dX0_haveCommonReport_58
    · have hf := pn_ifq c7 hf
      refine lv_iconst (v := (1)) hx hb dX0_haveCommonReport_28 (by decide) ?_
      cases hf
      rw [hQ]
      exact pn_retz hx hb hr hlocks hP hS rfl rfl dX0_haveCommonReport_29
def j_X0_hasAllOf_32 (p0 : Int64) (x5 : Int32) : Option (Int32) :=
  if x5 = 0 then
  some (1 : Int32)
  else
  pn_bd1 (f_X0_report p0) fun ru2 =>
  if x5 = ru2 then
  some (1 : Int32)
  else
  pn_bd1 (f_X0_other p0) fun ru4 =>
  if ¬ x5 = ru4 then
  some (0 : Int32)
  else
  some (1 : Int32)
def f_X0_hasAllOf (p0 : Int64) (p2 : Int64) : Option (Int32) :=
  pn_bd1 (f_X0_report p2) fun ru6 =>
  pn_bd1 (f_X0_other p2) fun ru7 =>
  pn_bd1 (f_X0_report p0) fun ru8 =>
  if ru6 = ru8 then
  j_X0_hasAllOf_32 p0 ru7
  else
  pn_bd1 (f_X0_other p0) fun ru10 =>
  if ru6 = ru10 then
  j_X0_hasAllOf_32 p0 ru7
  else
  some (0 : Int32)
set_option maxHeartbeats 4000000 in
set_option maxRecDepth 100000 in
theorem c_X0_hasAllOf (l : Launch) (D : va_G) (cI cJ cZ : ClassId) (sz : Nat) (p0 : Int64) (p2 : Int64) (rR : Int32) (hf : f_X0_hasAllOf p0 p2 = some rR) : Met l yX0_hasAllOf wsX0_hasAllOf { frames := 1, cells := 0, slots := 0, locals := 21 } (pn_Pc D cI cJ cZ [.long p0, .long p2] [] sz) (pn_Qi D rR [] (va_A [] sz)) 0 0 (va_A [] sz) := by
  refine pn_entry (cc := cX0_hasAllOf) (maxL := 6) (ret := (some .boolean)) (Qf := pn_Qi D rR []) (by decide) rfl (Nat.le_of_ble_eq_true rfl) ?_
  intro p e s m args below meth c A ls H locs Qm hQ hx hb hr hlocks hml hown hts hK hP hD hA hS hl
  have hl : lv_has ls 6 [(0, .long p0), (2, .long p2)] := hl
  rw [f_X0_hasAllOf] at hf
  have jn32 : ∀ (x5 : Int32) (H : Heap) (locs : List Loc) (ls : Array Slot), j_X0_hasAllOf_32 p0 x5 = some rR → va_P D vwCl [] H → va_S A s.heap H locs → lv_has ls 6 [(0, .long p0), (5, .int x5)] → W p l e { frames := 1, cells := 0, slots := 0, locals := 21 } s m args below meth c H locs 0 0 Qm (F0 m 32 ls []) := by
    intro x5 H locs ls hf hP hS hl
    rw [j_X0_hasAllOf_32] at hf
    refine lv_iload hx hb dX0_hasAllOf_32 (lv_at hl 1 rfl) ?_
    refine lv_if_eq (tgt := 55) hx hb dX0_hasAllOf_34 (by decide) (fun c1 => ?_) (fun c1 => ?_)
    · have hf := pn_ifp c1 hf
      refine lv_iconst (v := (1)) hx hb dX0_hasAllOf_55 (by decide) ?_
      refine lv_goto (tgt := 60) hx hb dX0_hasAllOf_56 (by decide) ?_
      cases hf
      rw [hQ]
      exact pn_retz hx hb hr hlocks hP hS rfl rfl dX0_hasAllOf_60
    · have hf := pn_ifn c1 hf
      refine lv_iload hx hb dX0_hasAllOf_37 (lv_at hl 1 rfl) ?_
      refine lv_lload_n hx hb dX0_hasAllOf_39 rfl (lv_at hl 0 rfl) ?_
      obtain ⟨ru2, hu2, hf⟩ := pn_bd1_at hf
      refine pn_calli [] (va_runS (As := [.long p0]) (rest := [.int x5]) ⟨hx, hb, hml, hown, hts⟩ (c_X0_report l D cI cJ cZ H.size p0 ru2 hu2) (va_cwS 1 hts gX0_hasAllOf_X0_report rfl rfl rfl hdX0_report ⟨Nat.le_of_ble_eq_true rfl, Nat.le_of_ble_eq_true rfl⟩) (pn_preS [] hP (hD.addr rfl) hK rfl rfl) rfl rfl hl.1 rfl (lv_room (Nat.le_of_ble_eq_true rfl)) dX0_hasAllOf_40 ⟨Nat.zero_le _, Nat.zero_le _⟩) hP (hD.addr rfl) hS hA rfl rfl rfl (fun H locs (hP : va_P D vwCl [] H) _ hS => ?_)
      refine lv_icmp_eq (tgt := 55) hx hb dX0_hasAllOf_43 (by decide) (fun c3 => ?_) (fun c3 => ?_)
      · have hf := pn_ifp c3 hf
        refine lv_iconst (v := (1)) hx hb dX0_hasAllOf_55 (by decide) ?_
        refine lv_goto (tgt := 60) hx hb dX0_hasAllOf_56 (by decide) ?_
        cases hf
        rw [hQ]
        exact pn_retz hx hb hr hlocks hP hS rfl rfl dX0_hasAllOf_60
      · have hf := pn_ifn c3 hf
        refine lv_iload hx hb dX0_hasAllOf_46 (lv_at hl 1 rfl) ?_
        refine lv_lload_n hx hb dX0_hasAllOf_48 rfl (lv_at hl 0 rfl) ?_
        obtain ⟨ru4, hu4, hf⟩ := pn_bd1_at hf
        refine pn_calli [] (va_runS (As := [.long p0]) (rest := [.int x5]) ⟨hx, hb, hml, hown, hts⟩ (c_X0_other l D cI cJ cZ H.size p0 ru4 hu4) (va_cwS 1 hts gX0_hasAllOf_X0_other rfl rfl rfl hdX0_other ⟨Nat.le_of_ble_eq_true rfl, Nat.le_of_ble_eq_true rfl⟩) (pn_preS [] hP (hD.addr rfl) hK rfl rfl) rfl rfl hl.1 rfl (lv_room (Nat.le_of_ble_eq_true rfl)) dX0_hasAllOf_49 ⟨Nat.zero_le _, Nat.zero_le _⟩) hP (hD.addr rfl) hS hA rfl rfl rfl (fun H locs (hP : va_P D vwCl [] H) _ hS => ?_)
        refine lv_icmp_ne (tgt := 59) hx hb dX0_hasAllOf_52 (by decide) (fun c5 => ?_) (fun c5 => ?_)
        · have hf := pn_ifp c5 hf
          refine lv_iconst (v := (0)) hx hb dX0_hasAllOf_59 (by decide) ?_
          cases hf
          rw [hQ]
          exact pn_retz hx hb hr hlocks hP hS rfl rfl dX0_hasAllOf_60
        · have hf := pn_ifq c5 hf
          refine lv_iconst (v := (1)) hx hb dX0_hasAllOf_55 (by decide) ?_
          refine lv_goto (tgt := 60) hx hb dX0_hasAllOf_56 (by decide) ?_
          cases hf
          rw [hQ]
          exact pn_retz hx hb hr hlocks hP hS rfl rfl dX0_hasAllOf_60
  refine lv_lload_n hx hb dX0_hasAllOf_0 rfl (lv_at hl 1 rfl) ?_
  obtain ⟨ru6, hu6, hf⟩ := pn_bd1_at hf
  refine pn_calli [] (va_runS (As := [.long p2]) (rest := []) ⟨hx, hb, hml, hown, hts⟩ (c_X0_report l D cI cJ cZ H.size p2 ru6 hu6) (va_cwS 1 hts gX0_hasAllOf_X0_report rfl rfl rfl hdX0_report ⟨Nat.le_of_ble_eq_true rfl, Nat.le_of_ble_eq_true rfl⟩) (pn_preS [] hP (hD.addr rfl) hK rfl rfl) rfl rfl hl.1 rfl (lv_room (Nat.le_of_ble_eq_true rfl)) dX0_hasAllOf_1 ⟨Nat.zero_le _, Nat.zero_le _⟩) hP (hD.addr rfl) hS hA rfl rfl rfl (fun H locs (hP : va_P D vwCl [] H) _ hS => ?_)
  refine lv_istore (lv' := [(4, .int ru6), (0, .long p0), (2, .long p2)]) hx hb dX0_hasAllOf_4 hl (by decide) rfl (fun ls hl => ?_)
  refine lv_lload_n hx hb dX0_hasAllOf_6 rfl (lv_at hl 2 rfl) ?_
  obtain ⟨ru7, hu7, hf⟩ := pn_bd1_at hf
  refine pn_calli [] (va_runS (As := [.long p2]) (rest := []) ⟨hx, hb, hml, hown, hts⟩ (c_X0_other l D cI cJ cZ H.size p2 ru7 hu7) (va_cwS 1 hts gX0_hasAllOf_X0_other rfl rfl rfl hdX0_other ⟨Nat.le_of_ble_eq_true rfl, Nat.le_of_ble_eq_true rfl⟩) (pn_preS [] hP (hD.addr rfl) hK rfl rfl) rfl rfl hl.1 rfl (lv_room (Nat.le_of_ble_eq_true rfl)) dX0_hasAllOf_7 ⟨Nat.zero_le _, Nat.zero_le _⟩) hP (hD.addr rfl) hS hA rfl rfl rfl (fun H locs (hP : va_P D vwCl [] H) _ hS => ?_)
  refine lv_istore (lv' := [(5, .int ru7), (4, .int ru6), (0, .long p0), (2, .long p2)]) hx hb dX0_hasAllOf_10 hl (by decide) rfl (fun ls hl => ?_)
  refine lv_iload hx hb dX0_hasAllOf_12 (lv_at hl 1 rfl) ?_
  refine lv_lload_n hx hb dX0_hasAllOf_14 rfl (lv_at hl 2 rfl) ?_
  obtain ⟨ru8, hu8, hf⟩ := pn_bd1_at hf
  refine pn_calli [] (va_runS (As := [.long p0]) (rest := [.int ru6]) ⟨hx, hb, hml, hown, hts⟩ (c_X0_report l D cI cJ cZ H.size p0 ru8 hu8) (va_cwS 1 hts gX0_hasAllOf_X0_report rfl rfl rfl hdX0_report ⟨Nat.le_of_ble_eq_true rfl, Nat.le_of_ble_eq_true rfl⟩) (pn_preS [] hP (hD.addr rfl) hK rfl rfl) rfl rfl hl.1 rfl (lv_room (Nat.le_of_ble_eq_true rfl)) dX0_hasAllOf_15 ⟨Nat.zero_le _, Nat.zero_le _⟩) hP (hD.addr rfl) hS hA rfl rfl rfl (fun H locs (hP : va_P D vwCl [] H) _ hS => ?_)
  refine lv_icmp_eq (tgt := 32) hx hb dX0_hasAllOf_18 (by decide) (fun c9 => ?_) (fun c9 => ?_)
  · have hf := pn_ifp c9 hf
    exact jn32 ru7 H locs ls hf hP hS (lv_sub hl [2, 0] rfl)
  · have hf := pn_ifn c9 hf
    refine lv_iload hx hb dX0_hasAllOf_21 (lv_at hl 1 rfl) ?_
    refine lv_lload_n hx hb dX0_hasAllOf_23 rfl (lv_at hl 2 rfl) ?_
    obtain ⟨ru10, hu10, hf⟩ := pn_bd1_at hf
    refine pn_calli [] (va_runS (As := [.long p0]) (rest := [.int ru6]) ⟨hx, hb, hml, hown, hts⟩ (c_X0_other l D cI cJ cZ H.size p0 ru10 hu10) (va_cwS 1 hts gX0_hasAllOf_X0_other rfl rfl rfl hdX0_other ⟨Nat.le_of_ble_eq_true rfl, Nat.le_of_ble_eq_true rfl⟩) (pn_preS [] hP (hD.addr rfl) hK rfl rfl) rfl rfl hl.1 rfl (lv_room (Nat.le_of_ble_eq_true rfl)) dX0_hasAllOf_24 ⟨Nat.zero_le _, Nat.zero_le _⟩) hP (hD.addr rfl) hS hA rfl rfl rfl (fun H locs (hP : va_P D vwCl [] H) _ hS => ?_)
    refine lv_icmp_eq (tgt := 32) hx hb dX0_hasAllOf_27 (by decide) (fun c11 => ?_) (fun c11 => ?_)
    · have hf := pn_ifp c11 hf
      exact jn32 ru7 H locs ls hf hP hS (lv_sub hl [2, 0] rfl)
    · have hf := pn_ifn c11 hf
      refine lv_iconst (v := (0)) hx hb dX0_hasAllOf_30 (by decide) ?_
      cases hf
      rw [hQ]
      exact pn_retz hx hb hr hlocks hP hS rfl rfl dX0_hasAllOf_31
def f_X0_haveSameName (p0 : Int64) (p2 : Int64) : Option (Int32) :=
  pn_bd1 (f_X0_first p0) fun ru1 =>
  pn_bd1 (f_X0_first p2) fun ru2 =>
  if ¬ ru1 = ru2 then
  some (0 : Int32)
  else
  pn_bd1 (f_X0_second p0) fun ru4 =>
  pn_bd1 (f_X0_second p2) fun ru5 =>
  if ¬ ru4 = ru5 then
  some (0 : Int32)
  else
  some (1 : Int32)
set_option maxHeartbeats 4000000 in
set_option maxRecDepth 100000 in
theorem c_X0_haveSameName (l : Launch) (D : va_G) (cI cJ cZ : ClassId) (sz : Nat) (p0 : Int64) (p2 : Int64) (rR : Int32) (hf : f_X0_haveSameName p0 p2 = some rR) : Met l yX0_haveSameName wsX0_haveSameName { frames := 1, cells := 0, slots := 0, locals := 21 } (pn_Pc D cI cJ cZ [.long p0, .long p2] [] sz) (pn_Qi D rR [] (va_A [] sz)) 0 0 (va_A [] sz) := by
  refine pn_entry (cc := cX0_haveSameName) (maxL := 4) (ret := (some .boolean)) (Qf := pn_Qi D rR []) (by decide) rfl (Nat.le_of_ble_eq_true rfl) ?_
  intro p e s m args below meth c A ls H locs Qm hQ hx hb hr hlocks hml hown hts hK hP hD hA hS hl
  have hl : lv_has ls 4 [(0, .long p0), (2, .long p2)] := hl
  rw [f_X0_haveSameName] at hf
  refine lv_lload_n hx hb dX0_haveSameName_0 rfl (lv_at hl 0 rfl) ?_
  obtain ⟨ru1, hu1, hf⟩ := pn_bd1_at hf
  refine pn_calli [] (va_runS (As := [.long p0]) (rest := []) ⟨hx, hb, hml, hown, hts⟩ (c_X0_first l D cI cJ cZ H.size p0 ru1 hu1) (va_cwS 1 hts gX0_haveSameName_X0_first rfl rfl rfl hdX0_first ⟨Nat.le_of_ble_eq_true rfl, Nat.le_of_ble_eq_true rfl⟩) (pn_preS [] hP (hD.addr rfl) hK rfl rfl) rfl rfl hl.1 rfl (lv_room (Nat.le_of_ble_eq_true rfl)) dX0_haveSameName_1 ⟨Nat.zero_le _, Nat.zero_le _⟩) hP (hD.addr rfl) hS hA rfl rfl rfl (fun H locs (hP : va_P D vwCl [] H) _ hS => ?_)
  refine lv_lload_n hx hb dX0_haveSameName_4 rfl (lv_at hl 1 rfl) ?_
  obtain ⟨ru2, hu2, hf⟩ := pn_bd1_at hf
  refine pn_calli [] (va_runS (As := [.long p2]) (rest := [.int ru1]) ⟨hx, hb, hml, hown, hts⟩ (c_X0_first l D cI cJ cZ H.size p2 ru2 hu2) (va_cwS 1 hts gX0_haveSameName_X0_first rfl rfl rfl hdX0_first ⟨Nat.le_of_ble_eq_true rfl, Nat.le_of_ble_eq_true rfl⟩) (pn_preS [] hP (hD.addr rfl) hK rfl rfl) rfl rfl hl.1 rfl (lv_room (Nat.le_of_ble_eq_true rfl)) dX0_haveSameName_5 ⟨Nat.zero_le _, Nat.zero_le _⟩) hP (hD.addr rfl) hS hA rfl rfl rfl (fun H locs (hP : va_P D vwCl [] H) _ hS => ?_)
  refine lv_icmp_ne (tgt := 26) hx hb dX0_haveSameName_8 (by decide) (fun c3 => ?_) (fun c3 => ?_)
  · have hf := pn_ifp c3 hf
    refine lv_iconst (v := (0)) hx hb dX0_haveSameName_26 (by decide) ?_
    cases hf
    rw [hQ]
    exact pn_retz hx hb hr hlocks hP hS rfl rfl dX0_haveSameName_27
  · have hf := pn_ifq c3 hf
    refine lv_lload_n hx hb dX0_haveSameName_11 rfl (lv_at hl 0 rfl) ?_
    obtain ⟨ru4, hu4, hf⟩ := pn_bd1_at hf
    refine pn_calli [] (va_runS (As := [.long p0]) (rest := []) ⟨hx, hb, hml, hown, hts⟩ (c_X0_second l D cI cJ cZ H.size p0 ru4 hu4) (va_cwS 1 hts gX0_haveSameName_X0_second rfl rfl rfl hdX0_second ⟨Nat.le_of_ble_eq_true rfl, Nat.le_of_ble_eq_true rfl⟩) (pn_preS [] hP (hD.addr rfl) hK rfl rfl) rfl rfl hl.1 rfl (lv_room (Nat.le_of_ble_eq_true rfl)) dX0_haveSameName_12 ⟨Nat.zero_le _, Nat.zero_le _⟩) hP (hD.addr rfl) hS hA rfl rfl rfl (fun H locs (hP : va_P D vwCl [] H) _ hS => ?_)
    refine lv_lload_n hx hb dX0_haveSameName_15 rfl (lv_at hl 1 rfl) ?_
    obtain ⟨ru5, hu5, hf⟩ := pn_bd1_at hf
    refine pn_calli [] (va_runS (As := [.long p2]) (rest := [.int ru4]) ⟨hx, hb, hml, hown, hts⟩ (c_X0_second l D cI cJ cZ H.size p2 ru5 hu5) (va_cwS 1 hts gX0_haveSameName_X0_second rfl rfl rfl hdX0_second ⟨Nat.le_of_ble_eq_true rfl, Nat.le_of_ble_eq_true rfl⟩) (pn_preS [] hP (hD.addr rfl) hK rfl rfl) rfl rfl hl.1 rfl (lv_room (Nat.le_of_ble_eq_true rfl)) dX0_haveSameName_16 ⟨Nat.zero_le _, Nat.zero_le _⟩) hP (hD.addr rfl) hS hA rfl rfl rfl (fun H locs (hP : va_P D vwCl [] H) _ hS => ?_)
    refine lv_icmp_ne (tgt := 26) hx hb dX0_haveSameName_19 (by decide) (fun c6 => ?_) (fun c6 => ?_)
    · have hf := pn_ifp c6 hf
      refine lv_iconst (v := (0)) hx hb dX0_haveSameName_26 (by decide) ?_
      cases hf
      rw [hQ]
      exact pn_retz hx hb hr hlocks hP hS rfl rfl dX0_haveSameName_27
    · have hf := pn_ifq c6 hf
      refine lv_iconst (v := (1)) hx hb dX0_haveSameName_22 (by decide) ?_
      refine lv_goto (tgt := 27) hx hb dX0_haveSameName_23 (by decide) ?_
      cases hf
      rw [hQ]
      exact pn_retz hx hb hr hlocks hP hS rfl rfl dX0_haveSameName_27
def j_X0_width_12 (p0 : Int64) (s0 : Int32) : Option (Int32) :=
  pn_bd1 (f_X0_form p0) fun ru1 =>
  if ru1 = 0 then
  pn_bd1 (f_X0_other p0) fun ru3 =>
  if ¬ ru3 = 0 then
  some (s0 + (11 : Int32))
  else
  some (s0 + (6 : Int32))
  else if ru1 = 3 then
  some (s0 + (3 : Int32))
  else some (s0 + (1 : Int32))
def f_X0_width (p0 : Int64) : Option (Int32) :=
  pn_bd1 (f_X0_pin p0) fun ru6 =>
  if ¬ ru6 = 0 then
  j_X0_width_12 p0 (3 : Int32)
  else
  j_X0_width_12 p0 (0 : Int32)
set_option maxHeartbeats 4000000 in
set_option maxRecDepth 100000 in
theorem c_X0_width (l : Launch) (D : va_G) (cI cJ cZ : ClassId) (sz : Nat) (p0 : Int64) (rR : Int32) (hf : f_X0_width p0 = some rR) : Met l yX0_width wsX0_width { frames := 1, cells := 0, slots := 0, locals := 21 } (pn_Pc D cI cJ cZ [.long p0] [] sz) (pn_Qi D rR [] (va_A [] sz)) 0 0 (va_A [] sz) := by
  refine pn_entry (cc := cX0_width) (maxL := 3) (ret := (some .int)) (Qf := pn_Qi D rR []) (by decide) rfl (Nat.le_of_ble_eq_true rfl) ?_
  intro p e s m args below meth c A ls H locs Qm hQ hx hb hr hlocks hml hown hts hK hP hD hA hS hl
  have hl : lv_has ls 3 [(0, .long p0)] := hl
  rw [f_X0_width] at hf
  have jn12 : ∀ (s0 : Int32) (H : Heap) (locs : List Loc) (ls : Array Slot), j_X0_width_12 p0 s0 = some rR → va_P D vwCl [] H → va_S A s.heap H locs → lv_has ls 3 [(0, .long p0)] → W p l e { frames := 1, cells := 0, slots := 0, locals := 21 } s m args below meth c H locs 0 0 Qm (F0 m 12 ls [.int s0]) := by
    intro s0 H locs ls hf hP hS hl
    rw [j_X0_width_12] at hf
    refine lv_istore_n (lv' := [(2, .int s0), (0, .long p0)]) hx hb dX0_width_12 rfl hl (by decide) rfl (fun ls hl => ?_)
    refine lv_lload_n hx hb dX0_width_13 rfl (lv_at hl 1 rfl) ?_
    obtain ⟨ru1, hu1, hf⟩ := pn_bd1_at hf
    refine pn_calli [] (va_runS (As := [.long p0]) (rest := []) ⟨hx, hb, hml, hown, hts⟩ (c_X0_form l D cI cJ cZ H.size p0 ru1 hu1) (va_cwS 1 hts gX0_width_X0_form rfl rfl rfl hdX0_form ⟨Nat.le_of_ble_eq_true rfl, Nat.le_of_ble_eq_true rfl⟩) (pn_preS [] hP (hD.addr rfl) hK rfl rfl) rfl rfl hl.1 rfl (lv_room (Nat.le_of_ble_eq_true rfl)) dX0_width_14 ⟨Nat.zero_le _, Nat.zero_le _⟩) hP (hD.addr rfl) hS hA rfl rfl rfl (fun H locs (hP : va_P D vwCl [] H) _ hS => ?_)
    by_cases c2 : ru1 = 0
    · have hf := pn_ifp c2 hf
      refine lv_lookup (tgt := 44) (off := 27) hx hb dX0_width_17 (by decide) (by rw [c2]; decide) (by decide) ?_
      refine lv_iload_n hx hb dX0_width_44 rfl (lv_at hl 0 rfl) ?_
      refine lv_lload_n hx hb dX0_width_45 rfl (lv_at hl 1 rfl) ?_
      obtain ⟨ru3, hu3, hf⟩ := pn_bd1_at hf
      refine pn_calli [] (va_runS (As := [.long p0]) (rest := [.int s0]) ⟨hx, hb, hml, hown, hts⟩ (c_X0_other l D cI cJ cZ H.size p0 ru3 hu3) (va_cwS 1 hts gX0_width_X0_other rfl rfl rfl hdX0_other ⟨Nat.le_of_ble_eq_true rfl, Nat.le_of_ble_eq_true rfl⟩) (pn_preS [] hP (hD.addr rfl) hK rfl rfl) rfl rfl hl.1 rfl (lv_room (Nat.le_of_ble_eq_true rfl)) dX0_width_46 ⟨Nat.zero_le _, Nat.zero_le _⟩) hP (hD.addr rfl) hS hA rfl rfl rfl (fun H locs (hP : va_P D vwCl [] H) _ hS => ?_)
      refine lv_if_ne (tgt := 57) hx hb dX0_width_49 (by decide) (fun c4 => ?_) (fun c4 => ?_)
      · have hf := pn_ifp c4 hf
        refine lv_bipush (v := (11)) hx hb dX0_width_57 (by decide) ?_
        refine lv_iadd hx hb dX0_width_59 ?_
        cases hf
        rw [hQ]
        exact pn_reti hx hb hr hlocks hP hS rfl dX0_width_60
      · have hf := pn_ifq c4 hf
        refine lv_bipush (v := (6)) hx hb dX0_width_52 (by decide) ?_
        refine lv_goto (tgt := 59) hx hb dX0_width_54 (by decide) ?_
        refine lv_iadd hx hb dX0_width_59 ?_
        cases hf
        rw [hQ]
        exact pn_reti hx hb hr hlocks hP hS rfl dX0_width_60
    · have hf := pn_ifn c2 hf
      by_cases c5 : ru1 = 3
      · have hf := pn_ifp c5 hf
        refine lv_lookup (tgt := 61) (off := 44) hx hb dX0_width_17 (by decide) (by rw [c5]; decide) (by decide) ?_
        refine lv_iload_n hx hb dX0_width_61 rfl (lv_at hl 0 rfl) ?_
        refine lv_iconst (v := (3)) hx hb dX0_width_62 (by decide) ?_
        refine lv_iadd hx hb dX0_width_63 ?_
        cases hf
        rw [hQ]
        exact pn_reti hx hb hr hlocks hP hS rfl dX0_width_64
      · have hf := pn_ifn c5 hf
        refine lv_lookup (tgt := 65) (off := 48) hx hb dX0_width_17 (by decide) (by rw [lv_osw c2 (by decide)]; rw [lv_osw c5 (by decide)]; rfl) (by decide) ?_
        refine lv_iload_n hx hb dX0_width_65 rfl (lv_at hl 0 rfl) ?_
        refine lv_iconst (v := (1)) hx hb dX0_width_66 (by decide) ?_
        refine lv_iadd hx hb dX0_width_67 ?_
        cases hf
        rw [hQ]
        exact pn_reti hx hb hr hlocks hP hS rfl dX0_width_68
  refine lv_lload_n hx hb dX0_width_0 rfl (lv_at hl 0 rfl) ?_
  obtain ⟨ru6, hu6, hf⟩ := pn_bd1_at hf
  refine pn_calli [] (va_runS (As := [.long p0]) (rest := []) ⟨hx, hb, hml, hown, hts⟩ (c_X0_pin l D cI cJ cZ H.size p0 ru6 hu6) (va_cwS 1 hts gX0_width_X0_pin rfl rfl rfl hdX0_pin ⟨Nat.le_of_ble_eq_true rfl, Nat.le_of_ble_eq_true rfl⟩) (pn_preS [] hP (hD.addr rfl) hK rfl rfl) rfl rfl hl.1 rfl (lv_room (Nat.le_of_ble_eq_true rfl)) dX0_width_1 ⟨Nat.zero_le _, Nat.zero_le _⟩) hP (hD.addr rfl) hS hA rfl rfl rfl (fun H locs (hP : va_P D vwCl [] H) _ hS => ?_)
  refine lv_if_ne (tgt := 11) hx hb dX0_width_4 (by decide) (fun c7 => ?_) (fun c7 => ?_)
  · have hf := pn_ifp c7 hf
    refine lv_iconst (v := (3)) hx hb dX0_width_11 (by decide) ?_
    exact jn12 (3 : Int32) H locs ls hf hP hS (lv_sub hl [0] rfl)
  · have hf := pn_ifq c7 hf
    refine lv_iconst (v := (0)) hx hb dX0_width_7 (by decide) ?_
    refine lv_goto (tgt := 12) hx hb dX0_width_8 (by decide) ?_
    exact jn12 (0 : Int32) H locs ls hf hP hS (lv_sub hl [0] rfl)
def f_X6_isOfSeries (p0 : Int32) (p1 : Int32) : Option (Int32) :=
  if p0 = 0 then
  some (0 : Int32)
  else
  if ¬ ((p0 / (100 : Int32)) - (p0 / (100 : Int32)) / (10 : Int32) * (10 : Int32)) = p1 then
  some (0 : Int32)
  else
  some (1 : Int32)
set_option maxHeartbeats 4000000 in
set_option maxRecDepth 100000 in
theorem c_X6_isOfSeries (l : Launch) (D : va_G) (cI cJ cZ : ClassId) (sz : Nat) (p0 : Int32) (p1 : Int32) (rR : Int32) (hf : f_X6_isOfSeries p0 p1 = some rR) : Met l yX6_isOfSeries wsX6_isOfSeries { frames := 0, cells := 0, slots := 0, locals := 0 } (pn_Pc D cI cJ cZ [.int p0, .int p1] [] sz) (pn_Qi D rR [] (va_A [] sz)) 0 0 (va_A [] sz) := by
  refine pn_entry (cc := cX6_isOfSeries) (maxL := 2) (ret := (some .boolean)) (Qf := pn_Qi D rR []) (by decide) rfl (Nat.le_of_ble_eq_true rfl) ?_
  intro p e s m args below meth c A ls H locs Qm hQ hx hb hr hlocks hml hown hts hK hP hD hA hS hl
  have hl : lv_has ls 2 [(0, .int p0), (1, .int p1)] := hl
  rw [f_X6_isOfSeries] at hf
  refine lv_iload_n hx hb dX6_isOfSeries_0 rfl (lv_at hl 0 rfl) ?_
  refine lv_if_eq (tgt := 19) hx hb dX6_isOfSeries_1 (by decide) (fun c1 => ?_) (fun c1 => ?_)
  · have hf := pn_ifp c1 hf
    refine lv_iconst (v := (0)) hx hb dX6_isOfSeries_19 (by decide) ?_
    cases hf
    rw [hQ]
    exact pn_retz hx hb hr hlocks hP hS rfl rfl dX6_isOfSeries_20
  · have hf := pn_ifn c1 hf
    refine lv_iload_n hx hb dX6_isOfSeries_4 rfl (lv_at hl 0 rfl) ?_
    refine lv_bipush (v := (100)) hx hb dX6_isOfSeries_5 (by decide) ?_
    refine lv_idiv hx hb dX6_isOfSeries_7 (by decide) ?_
    refine lv_bipush (v := (10)) hx hb dX6_isOfSeries_8 (by decide) ?_
    refine lv_irem hx hb dX6_isOfSeries_10 (by decide) ?_
    refine lv_iload_n hx hb dX6_isOfSeries_11 rfl (lv_at hl 1 rfl) ?_
    refine lv_icmp_ne (tgt := 19) hx hb dX6_isOfSeries_12 (by decide) (fun c2 => ?_) (fun c2 => ?_)
    · have hf := pn_ifp c2 hf
      refine lv_iconst (v := (0)) hx hb dX6_isOfSeries_19 (by decide) ?_
      cases hf
      rw [hQ]
      exact pn_retz hx hb hr hlocks hP hS rfl rfl dX6_isOfSeries_20
    · have hf := pn_ifq c2 hf
      refine lv_iconst (v := (1)) hx hb dX6_isOfSeries_15 (by decide) ?_
      refine lv_goto (tgt := 20) hx hb dX6_isOfSeries_16 (by decide) ?_
      cases hf
      rw [hQ]
      exact pn_retz hx hb hr hlocks hP hS rfl rfl dX6_isOfSeries_20
def lp_J7_fill_53178_5 (n_q0 : Nat) (p1 : Int32) (x3 : Int32) : Nat → Int32 → (Nat → Int32) → Option ((Nat → Int32))
  | 0, _, _ => none
  | n + 1, x2, r_q0 =>
    if x3 ≤ x2 then
  some r_q0
  else
  pn_wrI n_q0 r_q0 x2 p1 fun g2 =>
  pn_nm (x2 + (1 : Int32)) fun z4 =>
  lp_J7_fill_53178_5 n_q0 p1 x3 n z4 g2
def f_J7_fill_53178 (N : Nat) (n_q0 : Nat) (r_q0 : Nat → Int32) (p1 : Int32) : Option ((Nat → Int32)) :=
  pn_nm (Int32.ofNat n_q0) fun z5 =>
  pn_bd1 (lp_J7_fill_53178_5 n_q0 p1 z5 N (0 : Int32) r_q0) (fun X5 => (pn_u1 fun r_q0_w6 => some r_q0_w6) X5)
set_option maxHeartbeats 4000000 in
set_option maxRecDepth 100000 in
theorem c_J7_fill_53178 (l : Launch) (D : va_G) (cI cJ cZ : ClassId) (a_q0 : Nat) (sz : Nat) (N : Nat) (n_q0 : Nat) (r_q0 : Nat → Int32) (p1 : Int32) (o_q0 : Nat → Int32) (hf : f_J7_fill_53178 N n_q0 r_q0 p1 = some o_q0) : Met l yJ7_fill_53178 wsJ7_fill_53178 { frames := 0, cells := 0, slots := 0, locals := 0 } (pn_Pc D cI cJ cZ [.ref a_q0, .int p1] [(a_q0, .inl (cI, n_q0, .inl r_q0))] sz) (pn_Qv D [(a_q0, .inl (cI, n_q0, .inl o_q0))] (va_A [(a_q0, .inl (cI, n_q0, .inl r_q0))] sz)) 0 0 (va_A [(a_q0, .inl (cI, n_q0, .inl r_q0))] sz) := by
  refine pn_entry (cc := cJ7_fill_53178) (maxL := 4) (ret := none) (Qf := pn_Qv D [(a_q0, .inl (cI, n_q0, .inl o_q0))]) (by decide) rfl (Nat.le_of_ble_eq_true rfl) ?_
  intro p e s m args below meth c A ls H locs Qm hQ hx hb hr hlocks hml hown hts hK hP hD hA hS hl
  have hl : lv_has ls 4 [(0, .ref a_q0), (1, .int p1)] := hl
  rw [f_J7_fill_53178] at hf
  have lp5 : ∀ (n : Nat) (x2 : Int32) (x3 : Int32) (r_q0 : Nat → Int32) (X : (Nat → Int32)) (H : Heap) (locs : List Loc) (ls : Array Slot), lp_J7_fill_53178_5 n_q0 p1 x3 n x2 r_q0 = some X → va_P D vwCl [(a_q0, .inl (cI, n_q0, .inl r_q0))] H → va_S A s.heap H locs → lv_has ls 4 [(0, .ref a_q0), (1, .int p1), (2, .int x2), (3, .int x3)] → (∀  (r_q0' : Nat → Int32) (H : Heap) (locs : List Loc) (ls : Array Slot), X = r_q0' → va_P D vwCl [(a_q0, .inl (cI, n_q0, .inl (r_q0')))] H → va_S A s.heap H locs → lv_has ls 4 [] → W p l e { frames := 0, cells := 0, slots := 0, locals := 0 } s m args below meth c H locs 0 0 Qm (F0 m 20 ls [])) → W p l e { frames := 0, cells := 0, slots := 0, locals := 0 } s m args below meth c H locs 0 0 Qm (F0 m 5 ls []) := by
    intro n
    induction n with
    | zero => intro x2 x3 r_q0 X H locs ls hf; cases hf
    | succ n ih =>
      intro x2 x3 r_q0 X H locs ls hf hP hS hl kx20
      rw [lp_J7_fill_53178_5] at hf
      refine lv_iload_n hx hb dJ7_fill_53178_5 rfl (lv_at hl 2 rfl) ?_
      refine lv_iload_n hx hb dJ7_fill_53178_6 rfl (lv_at hl 3 rfl) ?_
      refine lv_icmp_ge (tgt := 20) hx hb dJ7_fill_53178_7 (by decide) (fun c1 => ?_) (fun c1 => ?_)
      · have hf := pn_ifp c1 hf
        exact kx20 r_q0 H locs ls (Option.some.inj hf).symm hP hS (lv_sub hl [] rfl)
      · have hf := pn_ifn c1 hf
        refine lv_aload_n hx hb dJ7_fill_53178_10 rfl (lv_at hl 0 rfl) ?_
        refine lv_iload_n hx hb dJ7_fill_53178_11 rfl (lv_at hl 2 rfl) ?_
        refine lv_iload_n hx hb dJ7_fill_53178_12 rfl (lv_at hl 1 rfl) ?_
        obtain ⟨hi3, g2, eg2, hf⟩ := pn_wrI_at hf
        refine pn_stI hx hb hK.1 hP (hD.addr rfl) hS 0 0 rfl rfl hi3 eg2 dJ7_fill_53178_13 (fun H locs (hP : va_P D vwCl [(a_q0, .inl (cI, n_q0, .inl g2))] H) _ hS => ?_)
        obtain ⟨z4, ez4⟩ : ∃ y : Int32, y = x2 + (1) := ⟨_, rfl⟩
        have hf := pn_nm_at ez4 hf
        refine lv_iinc (v := z4) (lv' := [(2, .int z4), (0, .ref a_q0), (1, .int p1), (3, .int x3)]) hx hb dJ7_fill_53178_14 hl (k := 2) rfl (by rw [ez4]; rfl) (by decide) rfl (fun ls hl => ?_)
        refine lv_goto (tgt := 5) hx hb dJ7_fill_53178_17 (by decide) ?_
        exact ih z4 x3 g2 X H locs ls hf hP hS (lv_sub hl [1, 2, 0, 3] rfl) kx20
  refine lv_iconst (v := (0)) hx hb dJ7_fill_53178_0 (by decide) ?_
  refine lv_istore_n (lv' := [(2, .int (0 : Int32)), (0, .ref a_q0), (1, .int p1)]) hx hb dJ7_fill_53178_1 rfl hl (by decide) rfl (fun ls hl => ?_)
  refine lv_aload_n hx hb dJ7_fill_53178_2 rfl (lv_at hl 1 rfl) ?_
  refine va_alen hx hb hK.1 hP 0 0 rfl rfl rfl dJ7_fill_53178_3 ?_
  refine lv_topi (fun z5 ez5 => ?_)
  have hf := pn_nm_at ez5 hf
  refine lv_istore_n (lv' := [(3, .int z5), (2, .int (0 : Int32)), (0, .ref a_q0), (1, .int p1)]) hx hb dJ7_fill_53178_4 rfl hl (by decide) rfl (fun ls hl => ?_)
  obtain ⟨X5, hX5, hf⟩ := pn_bd1_at hf
  refine lp5 N (0 : Int32) z5 r_q0 X5 H locs ls hX5 hP hS (lv_sub hl [2, 3, 1, 0] rfl) ?_
  · intro r_q0_w6 H locs ls eX hP hS hl
    rw [eX] at hf
    have hf := pn_u1_at hf
    cases hf
    rw [hQ]
    exact pn_retv hx hb hr hlocks hP hS dJ7_fill_53178_20
def f_J6_bitCount_0f7a4 (p0 : Int32) : Option (Int32) :=
  pn_nm (p0 - (((p0.toUInt32 >>> ((1 : Int32).toUInt32 &&& Int32.toUInt32 31)).toInt32) &&& (1431655765 : Int32))) fun z1 =>
  pn_nm ((z1 &&& (858993459 : Int32)) + (((z1.toUInt32 >>> ((2 : Int32).toUInt32 &&& Int32.toUInt32 31)).toInt32) &&& (858993459 : Int32))) fun z2 =>
  pn_nm ((z2 + ((z2.toUInt32 >>> ((4 : Int32).toUInt32 &&& Int32.toUInt32 31)).toInt32)) &&& (252645135 : Int32)) fun z3 =>
  pn_nm (z3 + ((z3.toUInt32 >>> ((8 : Int32).toUInt32 &&& Int32.toUInt32 31)).toInt32)) fun z4 =>
  pn_nm (z4 + ((z4.toUInt32 >>> ((16 : Int32).toUInt32 &&& Int32.toUInt32 31)).toInt32)) fun z5 =>
  some (z5 &&& (63 : Int32))
set_option maxHeartbeats 4000000 in
set_option maxRecDepth 100000 in
theorem c_J6_bitCount_0f7a4 (l : Launch) (D : va_G) (cI cJ cZ : ClassId) (sz : Nat) (p0 : Int32) (rR : Int32) (hf : f_J6_bitCount_0f7a4 p0 = some rR) : Met l yJ6_bitCount_0f7a4 wsJ6_bitCount_0f7a4 { frames := 0, cells := 0, slots := 0, locals := 0 } (pn_Pc D cI cJ cZ [.int p0] [] sz) (pn_Qi D rR [] (va_A [] sz)) 0 0 (va_A [] sz) := by
  refine pn_entry (cc := cJ6_bitCount_0f7a4) (maxL := 1) (ret := (some .int)) (Qf := pn_Qi D rR []) (by decide) rfl (Nat.le_of_ble_eq_true rfl) ?_
  intro p e s m args below meth c A ls H locs Qm hQ hx hb hr hlocks hml hown hts hK hP hD hA hS hl
  have hl : lv_has ls 1 [(0, .int p0)] := hl
  have ki_265 := hts (.constant RJ6 265 (1431655765)) (by decide +kernel)
  have ki_266 := hts (.constant RJ6 266 (858993459)) (by decide +kernel)
  have ki_267 := hts (.constant RJ6 267 (252645135)) (by decide +kernel)
  rw [f_J6_bitCount_0f7a4] at hf
  refine lv_iload_n hx hb dJ6_bitCount_0f7a4_0 rfl (lv_at hl 0 rfl) ?_
  refine lv_iload_n hx hb dJ6_bitCount_0f7a4_1 rfl (lv_at hl 0 rfl) ?_
  refine lv_iconst (v := (1)) hx hb dJ6_bitCount_0f7a4_2 (by decide) ?_
  refine lv_iushr hx hb dJ6_bitCount_0f7a4_3 rfl ?_
  refine lv_ldcw hx hb hown ki_265 dJ6_bitCount_0f7a4_4 ?_
  refine lv_iand hx hb dJ6_bitCount_0f7a4_7 ?_
  refine lv_isub hx hb dJ6_bitCount_0f7a4_8 ?_
  refine lv_topi (fun z1 ez1 => ?_)
  have hf := pn_nm_at ez1 hf
  refine lv_istore_n (lv' := [(0, .int z1)]) hx hb dJ6_bitCount_0f7a4_9 rfl hl (by decide) rfl (fun ls hl => ?_)
  refine lv_iload_n hx hb dJ6_bitCount_0f7a4_10 rfl (lv_at hl 0 rfl) ?_
  refine lv_ldcw hx hb hown ki_266 dJ6_bitCount_0f7a4_11 ?_
  refine lv_iand hx hb dJ6_bitCount_0f7a4_14 ?_
  refine lv_iload_n hx hb dJ6_bitCount_0f7a4_15 rfl (lv_at hl 0 rfl) ?_
  refine lv_iconst (v := (2)) hx hb dJ6_bitCount_0f7a4_16 (by decide) ?_
  refine lv_iushr hx hb dJ6_bitCount_0f7a4_17 rfl ?_
  refine lv_ldcw hx hb hown ki_266 dJ6_bitCount_0f7a4_18 ?_
  refine lv_iand hx hb dJ6_bitCount_0f7a4_21 ?_
  refine lv_iadd hx hb dJ6_bitCount_0f7a4_22 ?_
  refine lv_topi (fun z2 ez2 => ?_)
  have hf := pn_nm_at ez2 hf
  refine lv_istore_n (lv' := [(0, .int z2)]) hx hb dJ6_bitCount_0f7a4_23 rfl hl (by decide) rfl (fun ls hl => ?_)
  refine lv_iload_n hx hb dJ6_bitCount_0f7a4_24 rfl (lv_at hl 0 rfl) ?_
  refine lv_iload_n hx hb dJ6_bitCount_0f7a4_25 rfl (lv_at hl 0 rfl) ?_
  refine lv_iconst (v := (4)) hx hb dJ6_bitCount_0f7a4_26 (by decide) ?_
  refine lv_iushr hx hb dJ6_bitCount_0f7a4_27 rfl ?_
  refine lv_iadd hx hb dJ6_bitCount_0f7a4_28 ?_
  refine lv_ldcw hx hb hown ki_267 dJ6_bitCount_0f7a4_29 ?_
  refine lv_iand hx hb dJ6_bitCount_0f7a4_32 ?_
  refine lv_topi (fun z3 ez3 => ?_)
  have hf := pn_nm_at ez3 hf
  refine lv_istore_n (lv' := [(0, .int z3)]) hx hb dJ6_bitCount_0f7a4_33 rfl hl (by decide) rfl (fun ls hl => ?_)
  refine lv_iload_n hx hb dJ6_bitCount_0f7a4_34 rfl (lv_at hl 0 rfl) ?_
  refine lv_iload_n hx hb dJ6_bitCount_0f7a4_35 rfl (lv_at hl 0 rfl) ?_
  refine lv_bipush (v := (8)) hx hb dJ6_bitCount_0f7a4_36 (by decide) ?_
  refine lv_iushr hx hb dJ6_bitCount_0f7a4_38 rfl ?_
  refine lv_iadd hx hb dJ6_bitCount_0f7a4_39 ?_
  refine lv_topi (fun z4 ez4 => ?_)
  have hf := pn_nm_at ez4 hf
  refine lv_istore_n (lv' := [(0, .int z4)]) hx hb dJ6_bitCount_0f7a4_40 rfl hl (by decide) rfl (fun ls hl => ?_)
  refine lv_iload_n hx hb dJ6_bitCount_0f7a4_41 rfl (lv_at hl 0 rfl) ?_
  refine lv_iload_n hx hb dJ6_bitCount_0f7a4_42 rfl (lv_at hl 0 rfl) ?_
  refine lv_bipush (v := (16)) hx hb dJ6_bitCount_0f7a4_43 (by decide) ?_
  refine lv_iushr hx hb dJ6_bitCount_0f7a4_45 rfl ?_
  refine lv_iadd hx hb dJ6_bitCount_0f7a4_46 ?_
  refine lv_topi (fun z5 ez5 => ?_)
  have hf := pn_nm_at ez5 hf
  refine lv_istore_n (lv' := [(0, .int z5)]) hx hb dJ6_bitCount_0f7a4_47 rfl hl (by decide) rfl (fun ls hl => ?_)
  refine lv_iload_n hx hb dJ6_bitCount_0f7a4_48 rfl (lv_at hl 0 rfl) ?_
  refine lv_bipush (v := (63)) hx hb dJ6_bitCount_0f7a4_49 (by decide) ?_
  refine lv_iand hx hb dJ6_bitCount_0f7a4_51 ?_
  cases hf
  rw [hQ]
  exact pn_reti hx hb hr hlocks hP hS rfl dJ6_bitCount_0f7a4_52
def f_X6_isOfVolume (p0 : Int32) (p1 : Int32) : Option (Int32) :=
  if p0 = 0 then
  some (0 : Int32)
  else
  if ¬ (p0 / (1000 : Int32)) = p1 then
  some (0 : Int32)
  else
  some (1 : Int32)
set_option maxHeartbeats 4000000 in
set_option maxRecDepth 100000 in
theorem c_X6_isOfVolume (l : Launch) (D : va_G) (cI cJ cZ : ClassId) (sz : Nat) (p0 : Int32) (p1 : Int32) (rR : Int32) (hf : f_X6_isOfVolume p0 p1 = some rR) : Met l yX6_isOfVolume wsX6_isOfVolume { frames := 0, cells := 0, slots := 0, locals := 0 } (pn_Pc D cI cJ cZ [.int p0, .int p1] [] sz) (pn_Qi D rR [] (va_A [] sz)) 0 0 (va_A [] sz) := by
  refine pn_entry (cc := cX6_isOfVolume) (maxL := 2) (ret := (some .boolean)) (Qf := pn_Qi D rR []) (by decide) rfl (Nat.le_of_ble_eq_true rfl) ?_
  intro p e s m args below meth c A ls H locs Qm hQ hx hb hr hlocks hml hown hts hK hP hD hA hS hl
  have hl : lv_has ls 2 [(0, .int p0), (1, .int p1)] := hl
  rw [f_X6_isOfVolume] at hf
  refine lv_iload_n hx hb dX6_isOfVolume_0 rfl (lv_at hl 0 rfl) ?_
  refine lv_if_eq (tgt := 17) hx hb dX6_isOfVolume_1 (by decide) (fun c1 => ?_) (fun c1 => ?_)
  · have hf := pn_ifp c1 hf
    refine lv_iconst (v := (0)) hx hb dX6_isOfVolume_17 (by decide) ?_
    cases hf
    rw [hQ]
    exact pn_retz hx hb hr hlocks hP hS rfl rfl dX6_isOfVolume_18
  · have hf := pn_ifn c1 hf
    refine lv_iload_n hx hb dX6_isOfVolume_4 rfl (lv_at hl 0 rfl) ?_
    refine lv_sipush (v := (1000)) hx hb dX6_isOfVolume_5 (by decide) ?_
    refine lv_idiv hx hb dX6_isOfVolume_8 (by decide) ?_
    refine lv_iload_n hx hb dX6_isOfVolume_9 rfl (lv_at hl 1 rfl) ?_
    refine lv_icmp_ne (tgt := 17) hx hb dX6_isOfVolume_10 (by decide) (fun c2 => ?_) (fun c2 => ?_)
    · have hf := pn_ifp c2 hf
      refine lv_iconst (v := (0)) hx hb dX6_isOfVolume_17 (by decide) ?_
      cases hf
      rw [hQ]
      exact pn_retz hx hb hr hlocks hP hS rfl rfl dX6_isOfVolume_18
    · have hf := pn_ifq c2 hf
      refine lv_iconst (v := (1)) hx hb dX6_isOfVolume_13 (by decide) ?_
      refine lv_goto (tgt := 18) hx hb dX6_isOfVolume_14 (by decide) ?_
      cases hf
      rw [hQ]
      exact pn_retz hx hb hr hlocks hP hS rfl rfl dX6_isOfVolume_18
def f_X6_isMend (p0 : Int32) : Option (Int32) :=
  if p0 = 0 then
  some (1 : Int32)
  else
  if ¬ p0 = (1 : Int32) then
  some (0 : Int32)
  else
  some (1 : Int32)
set_option maxHeartbeats 4000000 in
set_option maxRecDepth 100000 in
theorem c_X6_isMend (l : Launch) (D : va_G) (cI cJ cZ : ClassId) (sz : Nat) (p0 : Int32) (rR : Int32) (hf : f_X6_isMend p0 = some rR) : Met l yX6_isMend wsX6_isMend { frames := 0, cells := 0, slots := 0, locals := 0 } (pn_Pc D cI cJ cZ [.int p0] [] sz) (pn_Qi D rR [] (va_A [] sz)) 0 0 (va_A [] sz) := by
  refine pn_entry (cc := cX6_isMend) (maxL := 1) (ret := (some .boolean)) (Qf := pn_Qi D rR []) (by decide) rfl (Nat.le_of_ble_eq_true rfl) ?_
  intro p e s m args below meth c A ls H locs Qm hQ hx hb hr hlocks hml hown hts hK hP hD hA hS hl
  have hl : lv_has ls 1 [(0, .int p0)] := hl
  rw [f_X6_isMend] at hf
  refine lv_iload_n hx hb dX6_isMend_0 rfl (lv_at hl 0 rfl) ?_
  refine lv_if_eq (tgt := 9) hx hb dX6_isMend_1 (by decide) (fun c1 => ?_) (fun c1 => ?_)
  · have hf := pn_ifp c1 hf
    refine lv_iconst (v := (1)) hx hb dX6_isMend_9 (by decide) ?_
    refine lv_goto (tgt := 14) hx hb dX6_isMend_10 (by decide) ?_
    cases hf
    rw [hQ]
    exact pn_retz hx hb hr hlocks hP hS rfl rfl dX6_isMend_14
  · have hf := pn_ifn c1 hf
    refine lv_iload_n hx hb dX6_isMend_4 rfl (lv_at hl 0 rfl) ?_
    refine lv_iconst (v := (1)) hx hb dX6_isMend_5 (by decide) ?_
    refine lv_icmp_ne (tgt := 13) hx hb dX6_isMend_6 (by decide) (fun c2 => ?_) (fun c2 => ?_)
    · have hf := pn_ifp c2 hf
      refine lv_iconst (v := (0)) hx hb dX6_isMend_13 (by decide) ?_
      cases hf
      rw [hQ]
      exact pn_retz hx hb hr hlocks hP hS rfl rfl dX6_isMend_14
    · have hf := pn_ifq c2 hf
      refine lv_iconst (v := (1)) hx hb dX6_isMend_9 (by decide) ?_
      refine lv_goto (tgt := 14) hx hb dX6_isMend_10 (by decide) ?_
      cases hf
      rw [hQ]
      exact pn_retz hx hb hr hlocks hP hS rfl rfl dX6_isMend_14
