theorem hdX7_pointed : yX7_pointed.cls ≠ "java/lang/invoke/MethodHandle" ∧ yX7_pointed.cls ≠ "java/lang/invoke/VarHandle" ∧ (parseMethodDescriptor yX7_pointed.desc).map (fun d => d.parameters.length) = some 3 := by decide +kernel
theorem hdX7_isAhead : yX7_isAhead.cls ≠ "java/lang/invoke/MethodHandle" ∧ yX7_isAhead.cls ≠ "java/lang/invoke/VarHandle" ∧ (parseMethodDescriptor yX7_isAhead.desc).map (fun d => d.parameters.length) = some 4 := by decide +kernel
theorem hdX7_told : yX7_told.cls = RX7 ∧ yX7_told.cls ≠ "java/lang/invoke/MethodHandle" ∧ yX7_told.cls ≠ "java/lang/invoke/VarHandle" ∧ (parseMethodDescriptor yX7_told.desc).map (fun d => d.parameters.length) = some 6 := by decide +kernel
theorem hdX7_find : yX7_find.cls = RX7 ∧ yX7_find.cls ≠ "java/lang/invoke/MethodHandle" ∧ yX7_find.cls ≠ "java/lang/invoke/VarHandle" ∧ (parseMethodDescriptor yX7_find.desc).map (fun d => d.parameters.length) = some 2 := by decide +kernel
theorem hdX7_findAll : yX7_findAll.cls = RX7 ∧ yX7_findAll.cls ≠ "java/lang/invoke/MethodHandle" ∧ yX7_findAll.cls ≠ "java/lang/invoke/VarHandle" ∧ (parseMethodDescriptor yX7_findAll.desc).map (fun d => d.parameters.length) = some 1 := by decide +kernel
theorem hdX7_manyRefs : yX7_manyRefs.cls ≠ "java/lang/invoke/MethodHandle" ∧ yX7_manyRefs.cls ≠ "java/lang/invoke/VarHandle" ∧ (parseMethodDescriptor yX7_manyRefs.desc).map (fun d => d.parameters.length) = some 2 := by decide +kernel
theorem hdX7_manyFound : yX7_manyFound.cls = RX7 ∧ yX7_manyFound.cls ≠ "java/lang/invoke/MethodHandle" ∧ yX7_manyFound.cls ≠ "java/lang/invoke/VarHandle" ∧ (parseMethodDescriptor yX7_manyFound.desc).map (fun d => d.parameters.length) = some 0 := by decide +kernel
theorem hdX7_dead : yX7_dead.cls = RX7 ∧ yX7_dead.cls ≠ "java/lang/invoke/MethodHandle" ∧ yX7_dead.cls ≠ "java/lang/invoke/VarHandle" ∧ (parseMethodDescriptor yX7_dead.desc).map (fun d => d.parameters.length) = some 1 := by decide +kernel
theorem hdX7_isPast : yX7_isPast.cls = RX7 ∧ yX7_isPast.cls ≠ "java/lang/invoke/MethodHandle" ∧ yX7_isPast.cls ≠ "java/lang/invoke/VarHandle" ∧ (parseMethodDescriptor yX7_isPast.desc).map (fun d => d.parameters.length) = some 3 := by decide +kernel
theorem hdX7_pinned : yX7_pinned.cls = RX7 ∧ yX7_pinned.cls ≠ "java/lang/invoke/MethodHandle" ∧ yX7_pinned.cls ≠ "java/lang/invoke/VarHandle" ∧ (parseMethodDescriptor yX7_pinned.desc).map (fun d => d.parameters.length) = some 2 := by decide +kernel
theorem hdX7_found : yX7_found.cls = RX7 ∧ yX7_found.cls ≠ "java/lang/invoke/MethodHandle" ∧ yX7_found.cls ≠ "java/lang/invoke/VarHandle" ∧ (parseMethodDescriptor yX7_found.desc).map (fun d => d.parameters.length) = some 3 := by decide +kernel
def lp_X7_pointed_16 (r_q0 : Nat → Int32) (p1 : Int32) (p2 : Int32) : Nat → Int32 → Int32 → Option (Int32)
  | 0, _, _ => none
  | n + 1, x3, x4 =>
    if (p2 / (4 : Int32)) ≤ x4 then
  some x3
  else
  pn_bd1 (f_X7_has p1 x4) fun ru2 =>
  if ru2 = 0 then
  pn_nm (x4 + (1 : Int32)) fun z4 =>
  lp_X7_pointed_16 r_q0 p1 p2 n x3 z4
  else
  pn_rd 265 r_q0 (0 : Int32) fun w5 =>
  if w5 ≤ x4 then
  pn_nm (x4 + (1 : Int32)) fun z8 =>
  lp_X7_pointed_16 r_q0 p1 p2 n x3 z8
  else
  pn_nm (x4 + (1 : Int32)) fun z9 =>
  lp_X7_pointed_16 r_q0 p1 p2 n x4 z9
def f_X7_pointed (N : Nat) (r_q0 : Nat → Int32) (p1 : Int32) (p2 : Int32) : Option (Int32) :=
  if (p2 - p2 / (4 : Int32) * (4 : Int32)) ≤ 0 then
  pn_bd1 (lp_X7_pointed_16 r_q0 p1 p2 N (-9 : Int32) (0 : Int32)) (fun X16 => (pn_u1 fun x3_w11 => if x3_w11 = (-9 : Int32) then
  some (-9 : Int32)
  else
  pn_rd 265 r_q0 ((1 : Int32) + x3_w11) fun w13 =>
  if w13 = (1 : Int32) then
  some ((4 : Int32) * x3_w11)
  else
  some (-9 : Int32)) X16)
  else
  some (p2 - (1 : Int32))
set_option maxHeartbeats 4000000 in
set_option maxRecDepth 100000 in
theorem c_X7_pointed (l : Launch) (D : va_G) (cI cJ cZ : ClassId) (a_q0 : Nat) (sz : Nat) (N : Nat) (r_q0 : Nat → Int32) (p1 : Int32) (p2 : Int32) (rR : Int32) (hf : f_X7_pointed N r_q0 p1 p2 = some rR) : Met l yX7_pointed wsX7_pointed { frames := 1, cells := 0, slots := 0, locals := 21 } (pn_Pc D cI cJ cZ [.ref a_q0, .int p1, .int p2] [(a_q0, .inl (cI, 265, .inl r_q0))] sz) (pn_Qi D rR [(a_q0, .inl (cI, 265, .inl r_q0))] (va_A [(a_q0, .inl (cI, 265, .inl r_q0))] sz)) 0 0 (va_A [(a_q0, .inl (cI, 265, .inl r_q0))] sz) := by
  refine pn_entry (cc := cX7_pointed) (maxL := 5) (ret := (some .int)) (Qf := pn_Qi D rR [(a_q0, .inl (cI, 265, .inl r_q0))]) (by decide) rfl (Nat.le_of_ble_eq_true rfl) ?_
  intro p e s m args below meth c A ls H locs Qm hQ hx hb hr hlocks hml hown hts hK hP hD hA hS hl
  have hl : lv_has ls 5 [(0, .ref a_q0), (1, .int p1), (2, .int p2)] := hl
  rw [f_X7_pointed] at hf
  have lp16 : ∀ (n : Nat) (x3 : Int32) (x4 : Int32) (X : Int32) (H : Heap) (locs : List Loc) (ls : Array Slot), lp_X7_pointed_16 r_q0 p1 p2 n x3 x4 = some X → va_P D vwCl [(a_q0, .inl (cI, 265, .inl r_q0))] H → va_S A s.heap H locs → lv_has ls 5 [(0, .ref a_q0), (1, .int p1), (2, .int p2), (3, .int x3), (4, .int x4)] → (∀ (y3 : Int32)  (H : Heap) (locs : List Loc) (ls : Array Slot), X = y3 → va_P D vwCl [(a_q0, .inl (cI, 265, .inl r_q0))] H → va_S A s.heap H locs → lv_has ls 5 [(0, .ref a_q0), (3, .int y3)] → W p l e { frames := 1, cells := 0, slots := 0, locals := 21 } s m args below meth c H locs 0 0 Qm (F0 m 54 ls [])) → W p l e { frames := 1, cells := 0, slots := 0, locals := 21 } s m args below meth c H locs 0 0 Qm (F0 m 16 ls []) := by
    intro n
    induction n with
    | zero => intro x3 x4 X H locs ls hf; cases hf
    | succ n ih =>
      intro x3 x4 X H locs ls hf hP hS hl kx54
      rw [lp_X7_pointed_16] at hf
      refine lv_iload hx hb dX7_pointed_16 (lv_at hl 4 rfl) ?_
      refine lv_iload_n hx hb dX7_pointed_18 rfl (lv_at hl 2 rfl) ?_
      refine lv_iconst (v := (4)) hx hb dX7_pointed_19 (by decide) ?_
      refine lv_idiv hx hb dX7_pointed_20 (by decide) ?_
      refine lv_icmp_ge (tgt := 54) hx hb dX7_pointed_21 (by decide) (fun c1 => ?_) (fun c1 => ?_)
      · have hf := pn_ifp c1 hf
        exact kx54 x3 H locs ls (Option.some.inj hf).symm hP hS (lv_sub hl [0, 3] rfl)
      · have hf := pn_ifn c1 hf
        refine lv_iload_n hx hb dX7_pointed_24 rfl (lv_at hl 1 rfl) ?_
        refine lv_iload hx hb dX7_pointed_25 (lv_at hl 4 rfl) ?_
        obtain ⟨ru2, hu2, hf⟩ := pn_bd1_at hf
        refine pn_calli [] (va_runS (As := [.int p1, .int x4]) (rest := []) ⟨hx, hb, hml, hown, hts⟩ (c_X7_has l D cI cJ cZ H.size p1 x4 ru2 hu2) (va_cwS 2 hts gX7_pointed_X7_has rfl rfl rfl hdX7_has ⟨Nat.le_of_ble_eq_true rfl, Nat.le_of_ble_eq_true rfl⟩) (pn_preS [] hP (hD.addr rfl) hK rfl rfl) rfl rfl hl.1 rfl (lv_room (Nat.le_of_ble_eq_true rfl)) dX7_pointed_27 ⟨Nat.zero_le _, Nat.zero_le _⟩) hP (hD.addr rfl) hS hA rfl rfl rfl (fun H locs (hP : va_P D vwCl [(a_q0, .inl (cI, 265, .inl r_q0))] H) _ hS => ?_)
        refine lv_if_eq (tgt := 46) hx hb dX7_pointed_30 (by decide) (fun c3 => ?_) (fun c3 => ?_)
        · have hf := pn_ifp c3 hf
          refine lv_iload_n hx hb dX7_pointed_46 rfl (lv_at hl 3 rfl) ?_
          refine lv_istore_n (lv' := [(3, .int x3), (0, .ref a_q0), (1, .int p1), (2, .int p2), (4, .int x4)]) hx hb dX7_pointed_47 rfl hl (by decide) rfl (fun ls hl => ?_)
          obtain ⟨z4, ez4⟩ : ∃ y : Int32, y = x4 + (1) := ⟨_, rfl⟩
          have hf := pn_nm_at ez4 hf
          refine lv_iinc (v := z4) (lv' := [(4, .int z4), (3, .int x3), (0, .ref a_q0), (1, .int p1), (2, .int p2)]) hx hb dX7_pointed_48 hl (k := 4) rfl (by rw [ez4]; rfl) (by decide) rfl (fun ls hl => ?_)
          refine lv_goto (tgt := 16) hx hb dX7_pointed_51 (by decide) ?_
          exact ih x3 z4 X H locs ls hf hP hS (lv_sub hl [2, 3, 4, 1, 0] rfl) kx54
        · have hf := pn_ifn c3 hf
          refine lv_iload hx hb dX7_pointed_33 (lv_at hl 4 rfl) ?_
          refine lv_aload_n hx hb dX7_pointed_35 rfl (lv_at hl 0 rfl) ?_
          refine lv_iconst (v := (0)) hx hb dX7_pointed_36 (by decide) ?_
          obtain ⟨hi6, w5, ew5, hf⟩ := pn_rd_at hf
          refine pn_ldI hx hb hK.1 hP 0 0 rfl rfl hi6 ew5 dX7_pointed_37 ?_
          refine lv_icmp_ge (tgt := 46) hx hb dX7_pointed_38 (by decide) (fun c7 => ?_) (fun c7 => ?_)
          · have hf := pn_ifp c7 hf
            refine lv_iload_n hx hb dX7_pointed_46 rfl (lv_at hl 3 rfl) ?_
            refine lv_istore_n (lv' := [(3, .int x3), (0, .ref a_q0), (1, .int p1), (2, .int p2), (4, .int x4)]) hx hb dX7_pointed_47 rfl hl (by decide) rfl (fun ls hl => ?_)
            obtain ⟨z8, ez8⟩ : ∃ y : Int32, y = x4 + (1) := ⟨_, rfl⟩
            have hf := pn_nm_at ez8 hf
            refine lv_iinc (v := z8) (lv' := [(4, .int z8), (3, .int x3), (0, .ref a_q0), (1, .int p1), (2, .int p2)]) hx hb dX7_pointed_48 hl (k := 4) rfl (by rw [ez8]; rfl) (by decide) rfl (fun ls hl => ?_)
            refine lv_goto (tgt := 16) hx hb dX7_pointed_51 (by decide) ?_
            exact ih x3 z8 X H locs ls hf hP hS (lv_sub hl [2, 3, 4, 1, 0] rfl) kx54
          · have hf := pn_ifn c7 hf
            refine lv_iload hx hb dX7_pointed_41 (lv_at hl 4 rfl) ?_
            refine lv_goto (tgt := 47) hx hb dX7_pointed_43 (by decide) ?_
            refine lv_istore_n (lv' := [(3, .int x4), (0, .ref a_q0), (1, .int p1), (2, .int p2), (4, .int x4)]) hx hb dX7_pointed_47 rfl hl (by decide) rfl (fun ls hl => ?_)
            obtain ⟨z9, ez9⟩ : ∃ y : Int32, y = x4 + (1) := ⟨_, rfl⟩
            have hf := pn_nm_at ez9 hf
            refine lv_iinc (v := z9) (lv' := [(4, .int z9), (3, .int x4), (0, .ref a_q0), (1, .int p1), (2, .int p2)]) hx hb dX7_pointed_48 hl (k := 4) rfl (by rw [ez9]; rfl) (by decide) rfl (fun ls hl => ?_)
            refine lv_goto (tgt := 16) hx hb dX7_pointed_51 (by decide) ?_
            exact ih x4 z9 X H locs ls hf hP hS (lv_sub hl [2, 3, 4, 1, 0] rfl) kx54
  refine lv_iload_n hx hb dX7_pointed_0 rfl (lv_at hl 2 rfl) ?_
  refine lv_iconst (v := (4)) hx hb dX7_pointed_1 (by decide) ?_
  refine lv_irem hx hb dX7_pointed_2 (by decide) ?_
  refine lv_if_le (tgt := 10) hx hb dX7_pointed_3 (by decide) (fun c10 => ?_) (fun c10 => ?_)
  · have hf := pn_ifp c10 hf
    refine lv_bipush (v := (-9)) hx hb dX7_pointed_10 (by decide) ?_
    refine lv_istore_n (lv' := [(3, .int (-9 : Int32)), (0, .ref a_q0), (1, .int p1), (2, .int p2)]) hx hb dX7_pointed_12 rfl hl (by decide) rfl (fun ls hl => ?_)
    refine lv_iconst (v := (0)) hx hb dX7_pointed_13 (by decide) ?_
    refine lv_istore (lv' := [(4, .int (0 : Int32)), (3, .int (-9 : Int32)), (0, .ref a_q0), (1, .int p1), (2, .int p2)]) hx hb dX7_pointed_14 hl (by decide) rfl (fun ls hl => ?_)
    obtain ⟨X16, hX16, hf⟩ := pn_bd1_at hf
    refine lp16 N (-9 : Int32) (0 : Int32) X16 H locs ls hX16 hP hS (lv_sub hl [2, 3, 4, 1, 0] rfl) ?_
    · intro x3_w11 H locs ls eX hP hS hl
      rw [eX] at hf
      have hf := pn_u1_at hf
      refine lv_iload_n hx hb dX7_pointed_54 rfl (lv_at hl 1 rfl) ?_
      refine lv_bipush (v := (-9)) hx hb dX7_pointed_55 (by decide) ?_
      refine lv_icmp_eq (tgt := 69) hx hb dX7_pointed_57 (by decide) (fun c12 => ?_) (fun c12 => ?_)
      · have hf := pn_ifp c12 hf
        refine lv_bipush (v := (-9)) hx hb dX7_pointed_69 (by decide) ?_
        refine lv_goto (tgt := 77) hx hb dX7_pointed_71 (by decide) ?_
        cases hf
        rw [hQ]
        exact pn_reti hx hb hr hlocks hP hS rfl dX7_pointed_77
      · have hf := pn_ifn c12 hf
        refine lv_aload_n hx hb dX7_pointed_60 rfl (lv_at hl 0 rfl) ?_
        refine lv_iconst (v := (1)) hx hb dX7_pointed_61 (by decide) ?_
        refine lv_iload_n hx hb dX7_pointed_62 rfl (lv_at hl 1 rfl) ?_
        refine lv_iadd hx hb dX7_pointed_63 ?_
        obtain ⟨hi14, w13, ew13, hf⟩ := pn_rd_at hf
        refine pn_ldI hx hb hK.1 hP 0 0 rfl rfl hi14 ew13 dX7_pointed_64 ?_
        refine lv_iconst (v := (1)) hx hb dX7_pointed_65 (by decide) ?_
        refine lv_icmp_eq (tgt := 74) hx hb dX7_pointed_66 (by decide) (fun c15 => ?_) (fun c15 => ?_)
        · have hf := pn_ifp c15 hf
          refine lv_iconst (v := (4)) hx hb dX7_pointed_74 (by decide) ?_
          refine lv_iload_n hx hb dX7_pointed_75 rfl (lv_at hl 1 rfl) ?_
          refine lv_imul hx hb dX7_pointed_76 ?_
          cases hf
          rw [hQ]
          exact pn_reti hx hb hr hlocks hP hS rfl dX7_pointed_77
        · have hf := pn_ifn c15 hf
          refine lv_bipush (v := (-9)) hx hb dX7_pointed_69 (by decide) ?_
          refine lv_goto (tgt := 77) hx hb dX7_pointed_71 (by decide) ?_
          cases hf
          rw [hQ]
          exact pn_reti hx hb hr hlocks hP hS rfl dX7_pointed_77
  · have hf := pn_ifn c10 hf
    refine lv_iload_n hx hb dX7_pointed_6 rfl (lv_at hl 2 rfl) ?_
    refine lv_iconst (v := (1)) hx hb dX7_pointed_7 (by decide) ?_
    refine lv_isub hx hb dX7_pointed_8 ?_
    cases hf
    rw [hQ]
    exact pn_reti hx hb hr hlocks hP hS rfl dX7_pointed_9
def f_X7_isAhead (r_q0 : Nat → Int32) (p1 : Int32) (p2 : Int32) (p3 : Int32) : Option (Int32) :=
  if (p3 / (4 : Int32)) ≤ p2 then
  some (0 : Int32)
  else
  pn_rd 265 r_q0 (0 : Int32) fun w2 =>
  if w2 ≤ p2 then
  some (0 : Int32)
  else
  pn_bd1 (f_X7_has p1 p2) fun ru5 =>
  if ru5 = 0 then
  some (0 : Int32)
  else
  some (1 : Int32)
set_option maxHeartbeats 4000000 in
set_option maxRecDepth 100000 in
theorem c_X7_isAhead (l : Launch) (D : va_G) (cI cJ cZ : ClassId) (a_q0 : Nat) (sz : Nat) (r_q0 : Nat → Int32) (p1 : Int32) (p2 : Int32) (p3 : Int32) (rR : Int32) (hf : f_X7_isAhead r_q0 p1 p2 p3 = some rR) : Met l yX7_isAhead wsX7_isAhead { frames := 1, cells := 0, slots := 0, locals := 21 } (pn_Pc D cI cJ cZ [.ref a_q0, .int p1, .int p2, .int p3] [(a_q0, .inl (cI, 265, .inl r_q0))] sz) (pn_Qi D rR [(a_q0, .inl (cI, 265, .inl r_q0))] (va_A [(a_q0, .inl (cI, 265, .inl r_q0))] sz)) 0 0 (va_A [(a_q0, .inl (cI, 265, .inl r_q0))] sz) := by
  refine pn_entry (cc := cX7_isAhead) (maxL := 4) (ret := (some .boolean)) (Qf := pn_Qi D rR [(a_q0, .inl (cI, 265, .inl r_q0))]) (by decide) rfl (Nat.le_of_ble_eq_true rfl) ?_
  intro p e s m args below meth c A ls H locs Qm hQ hx hb hr hlocks hml hown hts hK hP hD hA hS hl
  have hl : lv_has ls 4 [(0, .ref a_q0), (1, .int p1), (2, .int p2), (3, .int p3)] := hl
  rw [f_X7_isAhead] at hf
  refine lv_iload_n hx hb dX7_isAhead_0 rfl (lv_at hl 2 rfl) ?_
  refine lv_iload_n hx hb dX7_isAhead_1 rfl (lv_at hl 3 rfl) ?_
  refine lv_iconst (v := (4)) hx hb dX7_isAhead_2 (by decide) ?_
  refine lv_idiv hx hb dX7_isAhead_3 (by decide) ?_
  refine lv_icmp_ge (tgt := 26) hx hb dX7_isAhead_4 (by decide) (fun c1 => ?_) (fun c1 => ?_)
  · have hf := pn_ifp c1 hf
    refine lv_iconst (v := (0)) hx hb dX7_isAhead_26 (by decide) ?_
    cases hf
    rw [hQ]
    exact pn_retz hx hb hr hlocks hP hS rfl rfl dX7_isAhead_27
  · have hf := pn_ifn c1 hf
    refine lv_iload_n hx hb dX7_isAhead_7 rfl (lv_at hl 2 rfl) ?_
    refine lv_aload_n hx hb dX7_isAhead_8 rfl (lv_at hl 0 rfl) ?_
    refine lv_iconst (v := (0)) hx hb dX7_isAhead_9 (by decide) ?_
    obtain ⟨hi3, w2, ew2, hf⟩ := pn_rd_at hf
    refine pn_ldI hx hb hK.1 hP 0 0 rfl rfl hi3 ew2 dX7_isAhead_10 ?_
    refine lv_icmp_ge (tgt := 26) hx hb dX7_isAhead_11 (by decide) (fun c4 => ?_) (fun c4 => ?_)
    · have hf := pn_ifp c4 hf
      refine lv_iconst (v := (0)) hx hb dX7_isAhead_26 (by decide) ?_
      cases hf
      rw [hQ]
      exact pn_retz hx hb hr hlocks hP hS rfl rfl dX7_isAhead_27
    · have hf := pn_ifn c4 hf
      refine lv_iload_n hx hb dX7_isAhead_14 rfl (lv_at hl 1 rfl) ?_
      refine lv_iload_n hx hb dX7_isAhead_15 rfl (lv_at hl 2 rfl) ?_
      obtain ⟨ru5, hu5, hf⟩ := pn_bd1_at hf
      refine pn_calli [] (va_runS (As := [.int p1, .int p2]) (rest := []) ⟨hx, hb, hml, hown, hts⟩ (c_X7_has l D cI cJ cZ H.size p1 p2 ru5 hu5) (va_cwS 2 hts gX7_isAhead_X7_has rfl rfl rfl hdX7_has ⟨Nat.le_of_ble_eq_true rfl, Nat.le_of_ble_eq_true rfl⟩) (pn_preS [] hP (hD.addr rfl) hK rfl rfl) rfl rfl hl.1 rfl (lv_room (Nat.le_of_ble_eq_true rfl)) dX7_isAhead_16 ⟨Nat.zero_le _, Nat.zero_le _⟩) hP (hD.addr rfl) hS hA rfl rfl rfl (fun H locs (hP : va_P D vwCl [(a_q0, .inl (cI, 265, .inl r_q0))] H) _ hS => ?_)
      refine lv_if_eq (tgt := 26) hx hb dX7_isAhead_19 (by decide) (fun c6 => ?_) (fun c6 => ?_)
      · have hf := pn_ifp c6 hf
        refine lv_iconst (v := (0)) hx hb dX7_isAhead_26 (by decide) ?_
        cases hf
        rw [hQ]
        exact pn_retz hx hb hr hlocks hP hS rfl rfl dX7_isAhead_27
      · have hf := pn_ifn c6 hf
        refine lv_iconst (v := (1)) hx hb dX7_isAhead_22 (by decide) ?_
        refine lv_goto (tgt := 27) hx hb dX7_isAhead_23 (by decide) ?_
        cases hf
        rw [hQ]
        exact pn_retz hx hb hr hlocks hP hS rfl rfl dX7_isAhead_27
def j_X7_told_124 (s0 : Int32) : Option (Int32 × Int32) :=
  if ¬ s0 = (-9 : Int32) then
  if ¬ s0 = (-10 : Int32) then
  if ¬ (0 : Int32) = 0 then
  some ((-9 : Int32), (0 : Int32))
  else
  some (s0, (0 : Int32))
  else
  if ¬ (2 : Int32) = 0 then
  some ((-9 : Int32), (2 : Int32))
  else
  some (s0, (2 : Int32))
  else
  if ¬ (1 : Int32) = 0 then
  some ((-9 : Int32), (1 : Int32))
  else
  some (s0, (1 : Int32))
def j_X7_told_96 (N : Nat) (v_t_cases : Int32) (r_t_caseFirst : Nat → Int32) (r_t_finds : Nat → Int32) (r_q1 : Nat → Int32) (p2 : Int32) (p3 : Int32) (p4 : Int32) (p5 : Int32) (p6 : Int32) : Option (Int32 × Int32) :=
  if ¬ p4 = (1 : Int32) then
  pn_bd1 (f_X7_byAbove N v_t_cases r_t_caseFirst r_t_finds r_q1 p2 p6 p5) fun ru7 =>
  j_X7_told_124 ru7
  else
  pn_bd1 (f_X7_byShort N v_t_cases r_t_caseFirst r_q1 p2 p3 p5) fun ru8 =>
  j_X7_told_124 ru8
def f_X7_told (N : Nat) (v_t_cases : Int32) (v_t_lastReason : Int32) (r_t_caseFirst : Nat → Int32) (r_t_finds : Nat → Int32) (r_q1 : Nat → Int32) (p2 : Int32) (p3 : Int32) (p4 : Int32) (p5 : Int32) (p6 : Int32) : Option (Int32 × Int32) :=
  if ¬ p4 = (2 : Int32) then
  if ¬ p4 = (3 : Int32) then
  j_X7_told_96 N v_t_cases r_t_caseFirst r_t_finds r_q1 p2 p3 p4 p5 p6
  else
  pn_bd1 (f_X7_isAhead r_q1 p2 p6 p3) fun ru11 =>
  if ¬ ru11 = 0 then
  j_X7_told_96 N v_t_cases r_t_caseFirst r_t_finds r_q1 p2 p3 p4 p5 p6
  else
  some ((-9 : Int32), (5 : Int32))
  else
  pn_bd1 (f_X7_pointed N r_q1 p2 p3) fun ru13 =>
  if ¬ ru13 = (-9 : Int32) then
  pn_rd 32 r_t_finds ru13 fun w15 =>
  if ¬ w15 = (-9 : Int32) then
  if ¬ (0 : Int32) = 0 then
  some ((-9 : Int32), (0 : Int32))
  else
  pn_rd 32 r_t_finds ru13 fun w19 =>
  some (w19, (0 : Int32))
  else
  if ¬ (4 : Int32) = 0 then
  some ((-9 : Int32), (4 : Int32))
  else
  pn_rd 32 r_t_finds ru13 fun w22 =>
  some (w22, (4 : Int32))
  else
  if ¬ (3 : Int32) = 0 then
  some ((-9 : Int32), (3 : Int32))
  else
  pn_rd 32 r_t_finds ru13 fun w25 =>
  some (w25, (3 : Int32))
set_option maxHeartbeats 4000000 in
set_option maxRecDepth 100000 in
theorem c_X7_told (l : Launch) (D : va_G) (cI cJ cZ : ClassId) (a_t a_t_text a_t_readPage a_t_page a_t_trial a_t_work a_t_book a_t_kept a_t_isKept a_t_seenWhat a_t_seenV a_t_seenIs a_t_label a_t_finds a_t_reason a_t_caseFirst a_t_brief a_t_printed a_t_renamed a_t_worth a_q1 : Nat) (sz : Nat) (v_t_thrown : Int32) (v_t_textSize : Int32) (v_t_place : Int32) (v_t_doings : Int32) (v_t_seen : Int32) (v_t_seed : Int64) (v_t_printedSize : Int32) (N : Nat) (v_t_cases : Int32) (v_t_lastReason : Int32) (r_t_caseFirst : Nat → Int32) (r_t_finds : Nat → Int32) (r_q1 : Nat → Int32) (p2 : Int32) (p3 : Int32) (p4 : Int32) (p5 : Int32) (p6 : Int32) (rR : Int32) (o_t_lastReason : Int32) (hf : f_X7_told N v_t_cases v_t_lastReason r_t_caseFirst r_t_finds r_q1 p2 p3 p4 p5 p6 = some (rR, o_t_lastReason)) : Met l yX7_told wsX7_told { frames := 4, cells := 0, slots := 0, locals := 97 } (pn_Pc D cI cJ cZ [.ref a_t, .ref a_q1, .int p2, .int p3, .int p4, .int p5, .int p6] [(a_t, .inr (6, [.int v_t_thrown, .ref a_t_text, .int v_t_textSize, .int v_t_place, .ref a_t_readPage, .ref a_t_page, .ref a_t_trial, .ref a_t_work, .ref a_t_book, .int v_t_doings, .ref a_t_kept, .ref a_t_isKept, .int v_t_seen, .ref a_t_seenWhat, .ref a_t_seenV, .ref a_t_seenIs, .long v_t_seed, .ref a_t_label, .ref a_t_finds, .ref a_t_reason, .ref a_t_caseFirst, .int v_t_cases, .ref a_t_brief, .ref a_t_printed, .int v_t_printedSize, .ref a_t_renamed, .ref a_t_worth, .int v_t_lastReason])), (a_t_caseFirst, .inl (cI, 32, .inl r_t_caseFirst)), (a_t_finds, .inl (cI, 32, .inl r_t_finds)), (a_q1, .inl (cI, 265, .inl r_q1))] sz) (pn_Qi D rR [(a_t, .inr (6, [.int v_t_thrown, .ref a_t_text, .int v_t_textSize, .int v_t_place, .ref a_t_readPage, .ref a_t_page, .ref a_t_trial, .ref a_t_work, .ref a_t_book, .int v_t_doings, .ref a_t_kept, .ref a_t_isKept, .int v_t_seen, .ref a_t_seenWhat, .ref a_t_seenV, .ref a_t_seenIs, .long v_t_seed, .ref a_t_label, .ref a_t_finds, .ref a_t_reason, .ref a_t_caseFirst, .int v_t_cases, .ref a_t_brief, .ref a_t_printed, .int v_t_printedSize, .ref a_t_renamed, .ref a_t_worth, .int o_t_lastReason])), (a_t_caseFirst, .inl (cI, 32, .inl r_t_caseFirst)), (a_t_finds, .inl (cI, 32, .inl r_t_finds)), (a_q1, .inl (cI, 265, .inl r_q1))] (va_A [(a_t, .inr (6, [.int v_t_thrown, .ref a_t_text, .int v_t_textSize, .int v_t_place, .ref a_t_readPage, .ref a_t_page, .ref a_t_trial, .ref a_t_work, .ref a_t_book, .int v_t_doings, .ref a_t_kept, .ref a_t_isKept, .int v_t_seen, .ref a_t_seenWhat, .ref a_t_seenV, .ref a_t_seenIs, .long v_t_seed, .ref a_t_label, .ref a_t_finds, .ref a_t_reason, .ref a_t_caseFirst, .int v_t_cases, .ref a_t_brief, .ref a_t_printed, .int v_t_printedSize, .ref a_t_renamed, .ref a_t_worth, .int v_t_lastReason])), (a_t_caseFirst, .inl (cI, 32, .inl r_t_caseFirst)), (a_t_finds, .inl (cI, 32, .inl r_t_finds)), (a_q1, .inl (cI, 265, .inl r_q1))] sz)) 0 0 (va_A [(a_t, .inr (6, [.int v_t_thrown, .ref a_t_text, .int v_t_textSize, .int v_t_place, .ref a_t_readPage, .ref a_t_page, .ref a_t_trial, .ref a_t_work, .ref a_t_book, .int v_t_doings, .ref a_t_kept, .ref a_t_isKept, .int v_t_seen, .ref a_t_seenWhat, .ref a_t_seenV, .ref a_t_seenIs, .long v_t_seed, .ref a_t_label, .ref a_t_finds, .ref a_t_reason, .ref a_t_caseFirst, .int v_t_cases, .ref a_t_brief, .ref a_t_printed, .int v_t_printedSize, .ref a_t_renamed, .ref a_t_worth, .int v_t_lastReason])), (a_t_caseFirst, .inl (cI, 32, .inl r_t_caseFirst)), (a_t_finds, .inl (cI, 32, .inl r_t_finds)), (a_q1, .inl (cI, 265, .inl r_q1))] sz) := by
  refine pn_entry (cc := cX7_told) (maxL := 8) (ret := (some .int)) (Qf := pn_Qi D rR [(a_t, .inr (6, [.int v_t_thrown, .ref a_t_text, .int v_t_textSize, .int v_t_place, .ref a_t_readPage, .ref a_t_page, .ref a_t_trial, .ref a_t_work, .ref a_t_book, .int v_t_doings, .ref a_t_kept, .ref a_t_isKept, .int v_t_seen, .ref a_t_seenWhat, .ref a_t_seenV, .ref a_t_seenIs, .long v_t_seed, .ref a_t_label, .ref a_t_finds, .ref a_t_reason, .ref a_t_caseFirst, .int v_t_cases, .ref a_t_brief, .ref a_t_printed, .int v_t_printedSize, .ref a_t_renamed, .ref a_t_worth, .int o_t_lastReason])), (a_t_caseFirst, .inl (cI, 32, .inl r_t_caseFirst)), (a_t_finds, .inl (cI, 32, .inl r_t_finds)), (a_q1, .inl (cI, 265, .inl r_q1))]) (by decide) rfl (Nat.le_of_ble_eq_true rfl) ?_
  intro p e s m args below meth c A ls H locs Qm hQ hx hb hr hlocks hml hown hts hK hP hD hA hS hl
  have hl : lv_has ls 8 [(0, .ref a_t), (1, .ref a_q1), (2, .int p2), (3, .int p3), (4, .int p4), (5, .int p5), (6, .int p6)] := hl
  have hinX7 : ∀ w ∈ wsX70, w ∈ wsX7_told := by decide +kernel
  have fl_47 := hts (.fieldLink RX7 47 "PointingNotesModel" "finds" "[I") (by decide +kernel)
  have fl_159 := hts (.fieldLink RX7 159 "PointingNotesModel" "lastReason" "I") (by decide +kernel)
  rw [f_X7_told] at hf
  have jn124 : ∀ (s0 : Int32) (v_t_lastReason : Int32) (H : Heap) (locs : List Loc) (ls : Array Slot), j_X7_told_124 s0 = some (rR, o_t_lastReason) → va_P D vwCl [(a_t, .inr (6, [.int v_t_thrown, .ref a_t_text, .int v_t_textSize, .int v_t_place, .ref a_t_readPage, .ref a_t_page, .ref a_t_trial, .ref a_t_work, .ref a_t_book, .int v_t_doings, .ref a_t_kept, .ref a_t_isKept, .int v_t_seen, .ref a_t_seenWhat, .ref a_t_seenV, .ref a_t_seenIs, .long v_t_seed, .ref a_t_label, .ref a_t_finds, .ref a_t_reason, .ref a_t_caseFirst, .int v_t_cases, .ref a_t_brief, .ref a_t_printed, .int v_t_printedSize, .ref a_t_renamed, .ref a_t_worth, .int v_t_lastReason])), (a_t_caseFirst, .inl (cI, 32, .inl r_t_caseFirst)), (a_t_finds, .inl (cI, 32, .inl r_t_finds)), (a_q1, .inl (cI, 265, .inl r_q1))] H → va_S A s.heap H locs → lv_has ls 8 [(0, .ref a_t)] → W p l e { frames := 4, cells := 0, slots := 0, locals := 97 } s m args below meth c H locs 0 0 Qm (F0 m 124 ls [.int s0]) := by
    intro s0 v_t_lastReason H locs ls hf hP hS hl
    rw [j_X7_told_124] at hf
    refine lv_istore (lv' := [(7, .int s0), (0, .ref a_t)]) hx hb dX7_told_124 hl (by decide) rfl (fun ls hl => ?_)
    refine lv_aload_n hx hb dX7_told_126 rfl (lv_at hl 1 rfl) ?_
    refine lv_iload hx hb dX7_told_127 (lv_at hl 0 rfl) ?_
    refine lv_bipush (v := (-9)) hx hb dX7_told_129 (by decide) ?_
    refine lv_icmp_ne (tgt := 138) hx hb dX7_told_131 (by decide) (fun c1 => ?_) (fun c1 => ?_)
    · have hf := pn_ifp c1 hf
      refine lv_iload hx hb dX7_told_138 (lv_at hl 0 rfl) ?_
      refine lv_bipush (v := (-10)) hx hb dX7_told_140 (by decide) ?_
      refine lv_icmp_ne (tgt := 149) hx hb dX7_told_142 (by decide) (fun c2 => ?_) (fun c2 => ?_)
      · have hf := pn_ifp c2 hf
        refine lv_iconst (v := (0)) hx hb dX7_told_149 (by decide) ?_
        refine va_put (D := D) (ci := 6) (v := .int (0 : Int32)) (ty := .int) (C := RX7) (T := TX7) (N := 28) hx hb hts hinX7 tyX7 tyX7_ok nmX7 hown hK.1 hP (hD.addr rfl) hS 0 rfl rfl 27 (by decide) fl_159 (fun _ h9 => h9) rfl (by decide +kernel) rfl rfl (Nat.le_of_ble_eq_true rfl) dX7_told_150 (fun H locs (hP : va_P D vwCl [(a_t, .inr (6, [.int v_t_thrown, .ref a_t_text, .int v_t_textSize, .int v_t_place, .ref a_t_readPage, .ref a_t_page, .ref a_t_trial, .ref a_t_work, .ref a_t_book, .int v_t_doings, .ref a_t_kept, .ref a_t_isKept, .int v_t_seen, .ref a_t_seenWhat, .ref a_t_seenV, .ref a_t_seenIs, .long v_t_seed, .ref a_t_label, .ref a_t_finds, .ref a_t_reason, .ref a_t_caseFirst, .int v_t_cases, .ref a_t_brief, .ref a_t_printed, .int v_t_printedSize, .ref a_t_renamed, .ref a_t_worth, .int ((0 : Int32))])), (a_t_caseFirst, .inl (cI, 32, .inl r_t_caseFirst)), (a_t_finds, .inl (cI, 32, .inl r_t_finds)), (a_q1, .inl (cI, 265, .inl r_q1))] H) _ hS => ?_)
        refine lv_aload_n hx hb dX7_told_153 rfl (lv_at hl 1 rfl) ?_
        refine va_get (D := D) (ci := 6) (v := .int (0 : Int32)) (C := RX7) (T := TX7) (N := 28) hx hb hts hinX7 hown hK.1 hP 0 rfl rfl 27 (by decide) fl_159 (fun _ h9 => h9) rfl dX7_told_154 ?_
        refine lv_if_ne (tgt := 165) hx hb dX7_told_157 (by decide) (fun c3 => ?_) (fun c3 => ?_)
        · have hf := pn_ifp c3 hf
          refine lv_bipush (v := (-9)) hx hb dX7_told_165 (by decide) ?_
          cases hf
          rw [hQ]
          exact pn_reti hx hb hr hlocks hP hS rfl dX7_told_167
        · have hf := pn_ifq c3 hf
          refine lv_iload hx hb dX7_told_160 (lv_at hl 0 rfl) ?_
          refine lv_goto (tgt := 167) hx hb dX7_told_162 (by decide) ?_
          cases hf
          rw [hQ]
          exact pn_reti hx hb hr hlocks hP hS rfl dX7_told_167
      · have hf := pn_ifq c2 hf
        refine lv_iconst (v := (2)) hx hb dX7_told_145 (by decide) ?_
        refine lv_goto (tgt := 150) hx hb dX7_told_146 (by decide) ?_
        refine va_put (D := D) (ci := 6) (v := .int (2 : Int32)) (ty := .int) (C := RX7) (T := TX7) (N := 28) hx hb hts hinX7 tyX7 tyX7_ok nmX7 hown hK.1 hP (hD.addr rfl) hS 0 rfl rfl 27 (by decide) fl_159 (fun _ h9 => h9) rfl (by decide +kernel) rfl rfl (Nat.le_of_ble_eq_true rfl) dX7_told_150 (fun H locs (hP : va_P D vwCl [(a_t, .inr (6, [.int v_t_thrown, .ref a_t_text, .int v_t_textSize, .int v_t_place, .ref a_t_readPage, .ref a_t_page, .ref a_t_trial, .ref a_t_work, .ref a_t_book, .int v_t_doings, .ref a_t_kept, .ref a_t_isKept, .int v_t_seen, .ref a_t_seenWhat, .ref a_t_seenV, .ref a_t_seenIs, .long v_t_seed, .ref a_t_label, .ref a_t_finds, .ref a_t_reason, .ref a_t_caseFirst, .int v_t_cases, .ref a_t_brief, .ref a_t_printed, .int v_t_printedSize, .ref a_t_renamed, .ref a_t_worth, .int ((2 : Int32))])), (a_t_caseFirst, .inl (cI, 32, .inl r_t_caseFirst)), (a_t_finds, .inl (cI, 32, .inl r_t_finds)), (a_q1, .inl (cI, 265, .inl r_q1))] H) _ hS => ?_)
        refine lv_aload_n hx hb dX7_told_153 rfl (lv_at hl 1 rfl) ?_
        refine va_get (D := D) (ci := 6) (v := .int (2 : Int32)) (C := RX7) (T := TX7) (N := 28) hx hb hts hinX7 hown hK.1 hP 0 rfl rfl 27 (by decide) fl_159 (fun _ h9 => h9) rfl dX7_told_154 ?_
        refine lv_if_ne (tgt := 165) hx hb dX7_told_157 (by decide) (fun c4 => ?_) (fun c4 => ?_)
        · have hf := pn_ifp c4 hf
          refine lv_bipush (v := (-9)) hx hb dX7_told_165 (by decide) ?_
          cases hf
          rw [hQ]
          exact pn_reti hx hb hr hlocks hP hS rfl dX7_told_167
        · have hf := pn_ifq c4 hf
          refine lv_iload hx hb dX7_told_160 (lv_at hl 0 rfl) ?_
          refine lv_goto (tgt := 167) hx hb dX7_told_162 (by decide) ?_
          cases hf
          rw [hQ]
          exact pn_reti hx hb hr hlocks hP hS rfl dX7_told_167
    · have hf := pn_ifq c1 hf
      refine lv_iconst (v := (1)) hx hb dX7_told_134 (by decide) ?_
      refine lv_goto (tgt := 150) hx hb dX7_told_135 (by decide) ?_
      refine va_put (D := D) (ci := 6) (v := .int (1 : Int32)) (ty := .int) (C := RX7) (T := TX7) (N := 28) hx hb hts hinX7 tyX7 tyX7_ok nmX7 hown hK.1 hP (hD.addr rfl) hS 0 rfl rfl 27 (by decide) fl_159 (fun _ h9 => h9) rfl (by decide +kernel) rfl rfl (Nat.le_of_ble_eq_true rfl) dX7_told_150 (fun H locs (hP : va_P D vwCl [(a_t, .inr (6, [.int v_t_thrown, .ref a_t_text, .int v_t_textSize, .int v_t_place, .ref a_t_readPage, .ref a_t_page, .ref a_t_trial, .ref a_t_work, .ref a_t_book, .int v_t_doings, .ref a_t_kept, .ref a_t_isKept, .int v_t_seen, .ref a_t_seenWhat, .ref a_t_seenV, .ref a_t_seenIs, .long v_t_seed, .ref a_t_label, .ref a_t_finds, .ref a_t_reason, .ref a_t_caseFirst, .int v_t_cases, .ref a_t_brief, .ref a_t_printed, .int v_t_printedSize, .ref a_t_renamed, .ref a_t_worth, .int ((1 : Int32))])), (a_t_caseFirst, .inl (cI, 32, .inl r_t_caseFirst)), (a_t_finds, .inl (cI, 32, .inl r_t_finds)), (a_q1, .inl (cI, 265, .inl r_q1))] H) _ hS => ?_)
      refine lv_aload_n hx hb dX7_told_153 rfl (lv_at hl 1 rfl) ?_
      refine va_get (D := D) (ci := 6) (v := .int (1 : Int32)) (C := RX7) (T := TX7) (N := 28) hx hb hts hinX7 hown hK.1 hP 0 rfl rfl 27 (by decide) fl_159 (fun _ h9 => h9) rfl dX7_told_154 ?_
      refine lv_if_ne (tgt := 165) hx hb dX7_told_157 (by decide) (fun c5 => ?_) (fun c5 => ?_)
      · have hf := pn_ifp c5 hf
        refine lv_bipush (v := (-9)) hx hb dX7_told_165 (by decide) ?_
        cases hf
        rw [hQ]
        exact pn_reti hx hb hr hlocks hP hS rfl dX7_told_167
      · have hf := pn_ifq c5 hf
        refine lv_iload hx hb dX7_told_160 (lv_at hl 0 rfl) ?_
        refine lv_goto (tgt := 167) hx hb dX7_told_162 (by decide) ?_
        cases hf
        rw [hQ]
        exact pn_reti hx hb hr hlocks hP hS rfl dX7_told_167
  have jn96 : ∀ (v_t_lastReason : Int32) (H : Heap) (locs : List Loc) (ls : Array Slot), j_X7_told_96 N v_t_cases r_t_caseFirst r_t_finds r_q1 p2 p3 p4 p5 p6 = some (rR, o_t_lastReason) → va_P D vwCl [(a_t, .inr (6, [.int v_t_thrown, .ref a_t_text, .int v_t_textSize, .int v_t_place, .ref a_t_readPage, .ref a_t_page, .ref a_t_trial, .ref a_t_work, .ref a_t_book, .int v_t_doings, .ref a_t_kept, .ref a_t_isKept, .int v_t_seen, .ref a_t_seenWhat, .ref a_t_seenV, .ref a_t_seenIs, .long v_t_seed, .ref a_t_label, .ref a_t_finds, .ref a_t_reason, .ref a_t_caseFirst, .int v_t_cases, .ref a_t_brief, .ref a_t_printed, .int v_t_printedSize, .ref a_t_renamed, .ref a_t_worth, .int v_t_lastReason])), (a_t_caseFirst, .inl (cI, 32, .inl r_t_caseFirst)), (a_t_finds, .inl (cI, 32, .inl r_t_finds)), (a_q1, .inl (cI, 265, .inl r_q1))] H → va_S A s.heap H locs → lv_has ls 8 [(0, .ref a_t), (1, .ref a_q1), (2, .int p2), (3, .int p3), (4, .int p4), (5, .int p5), (6, .int p6)] → W p l e { frames := 4, cells := 0, slots := 0, locals := 97 } s m args below meth c H locs 0 0 Qm (F0 m 96 ls []) := by
    intro v_t_lastReason H locs ls hf hP hS hl
    rw [j_X7_told_96] at hf
    refine lv_iload hx hb dX7_told_96 (lv_at hl 4 rfl) ?_
    refine lv_iconst (v := (1)) hx hb dX7_told_98 (by decide) ?_
    refine lv_icmp_ne (tgt := 114) hx hb dX7_told_99 (by decide) (fun c6 => ?_) (fun c6 => ?_)
    · have hf := pn_ifp c6 hf
      refine lv_aload_n hx hb dX7_told_114 rfl (lv_at hl 0 rfl) ?_
      refine lv_aload_n hx hb dX7_told_115 rfl (lv_at hl 1 rfl) ?_
      refine lv_iload_n hx hb dX7_told_116 rfl (lv_at hl 2 rfl) ?_
      refine lv_iload hx hb dX7_told_117 (lv_at hl 6 rfl) ?_
      refine lv_iload hx hb dX7_told_119 (lv_at hl 5 rfl) ?_
      obtain ⟨ru7, hu7, hf⟩ := pn_bd1_at hf
      refine pn_calli [0, 1, 2, 3] (va_runV (As := [.ref a_q1, .int p2, .int p6, .int p5]) (rest := []) ⟨hx, hb, hml, hown, hts⟩ (c_X7_byAbove l D cI cJ cZ a_t a_t_text a_t_readPage a_t_page a_t_trial a_t_work a_t_book a_t_kept a_t_isKept a_t_seenWhat a_t_seenV a_t_seenIs a_t_label a_t_finds a_t_reason a_t_caseFirst a_t_brief a_t_printed a_t_renamed a_t_worth a_q1 H.size v_t_thrown v_t_textSize v_t_place v_t_doings v_t_seen v_t_seed v_t_printedSize v_t_lastReason N v_t_cases r_t_caseFirst r_t_finds r_q1 p2 p6 p5 ru7 hu7) (cwV 4 hts gX7_told_X7_byAbove rfl rfl rfl hdX7_byAbove ⟨Nat.le_of_ble_eq_true rfl, Nat.le_of_ble_eq_true rfl⟩) (pn_preV [0, 1, 2, 3] hP (hD.addr rfl) hK rfl rfl (q0 := 0) (ci := 6) rfl rfl) rfl rfl hl.1 rfl (lv_room (Nat.le_of_ble_eq_true rfl)) dX7_told_121 ⟨Nat.zero_le _, Nat.zero_le _⟩) hP (hD.addr rfl) hS hA rfl rfl rfl (fun H locs (hP : va_P D vwCl [(a_t, .inr (6, [.int v_t_thrown, .ref a_t_text, .int v_t_textSize, .int v_t_place, .ref a_t_readPage, .ref a_t_page, .ref a_t_trial, .ref a_t_work, .ref a_t_book, .int v_t_doings, .ref a_t_kept, .ref a_t_isKept, .int v_t_seen, .ref a_t_seenWhat, .ref a_t_seenV, .ref a_t_seenIs, .long v_t_seed, .ref a_t_label, .ref a_t_finds, .ref a_t_reason, .ref a_t_caseFirst, .int v_t_cases, .ref a_t_brief, .ref a_t_printed, .int v_t_printedSize, .ref a_t_renamed, .ref a_t_worth, .int v_t_lastReason])), (a_t_caseFirst, .inl (cI, 32, .inl r_t_caseFirst)), (a_t_finds, .inl (cI, 32, .inl r_t_finds)), (a_q1, .inl (cI, 265, .inl r_q1))] H) _ hS => ?_)
      exact jn124 ru7 v_t_lastReason H locs ls hf hP hS (lv_sub hl [0] rfl)
    · have hf := pn_ifq c6 hf
      refine lv_aload_n hx hb dX7_told_102 rfl (lv_at hl 0 rfl) ?_
      refine lv_aload_n hx hb dX7_told_103 rfl (lv_at hl 1 rfl) ?_
      refine lv_iload_n hx hb dX7_told_104 rfl (lv_at hl 2 rfl) ?_
      refine lv_iload_n hx hb dX7_told_105 rfl (lv_at hl 3 rfl) ?_
      refine lv_iload hx hb dX7_told_106 (lv_at hl 5 rfl) ?_
      obtain ⟨ru8, hu8, hf⟩ := pn_bd1_at hf
      refine pn_calli [0, 1, 3] (va_runV (As := [.ref a_q1, .int p2, .int p3, .int p5]) (rest := []) ⟨hx, hb, hml, hown, hts⟩ (c_X7_byShort l D cI cJ cZ a_t a_t_text a_t_readPage a_t_page a_t_trial a_t_work a_t_book a_t_kept a_t_isKept a_t_seenWhat a_t_seenV a_t_seenIs a_t_label a_t_finds a_t_reason a_t_caseFirst a_t_brief a_t_printed a_t_renamed a_t_worth a_q1 H.size v_t_thrown v_t_textSize v_t_place v_t_doings v_t_seen v_t_seed v_t_printedSize v_t_lastReason N v_t_cases r_t_caseFirst r_q1 p2 p3 p5 ru8 hu8) (cwV 4 hts gX7_told_X7_byShort rfl rfl rfl hdX7_byShort ⟨Nat.le_of_ble_eq_true rfl, Nat.le_of_ble_eq_true rfl⟩) (pn_preV [0, 1, 3] hP (hD.addr rfl) hK rfl rfl (q0 := 0) (ci := 6) rfl rfl) rfl rfl hl.1 rfl (lv_room (Nat.le_of_ble_eq_true rfl)) dX7_told_108 ⟨Nat.zero_le _, Nat.zero_le _⟩) hP (hD.addr rfl) hS hA rfl rfl rfl (fun H locs (hP : va_P D vwCl [(a_t, .inr (6, [.int v_t_thrown, .ref a_t_text, .int v_t_textSize, .int v_t_place, .ref a_t_readPage, .ref a_t_page, .ref a_t_trial, .ref a_t_work, .ref a_t_book, .int v_t_doings, .ref a_t_kept, .ref a_t_isKept, .int v_t_seen, .ref a_t_seenWhat, .ref a_t_seenV, .ref a_t_seenIs, .long v_t_seed, .ref a_t_label, .ref a_t_finds, .ref a_t_reason, .ref a_t_caseFirst, .int v_t_cases, .ref a_t_brief, .ref a_t_printed, .int v_t_printedSize, .ref a_t_renamed, .ref a_t_worth, .int v_t_lastReason])), (a_t_caseFirst, .inl (cI, 32, .inl r_t_caseFirst)), (a_t_finds, .inl (cI, 32, .inl r_t_finds)), (a_q1, .inl (cI, 265, .inl r_q1))] H) _ hS => ?_)
      refine lv_goto (tgt := 124) hx hb dX7_told_111 (by decide) ?_
      exact jn124 ru8 v_t_lastReason H locs ls hf hP hS (lv_sub hl [0] rfl)
  refine lv_aload_n hx hb dX7_told_0 rfl (lv_at hl 0 rfl) ?_
  refine lv_iconst (v := (0)) hx hb dX7_told_1 (by decide) ?_
  refine va_put (D := D) (ci := 6) (v := .int (0 : Int32)) (ty := .int) (C := RX7) (T := TX7) (N := 28) hx hb hts hinX7 tyX7 tyX7_ok nmX7 hown hK.1 hP (hD.addr rfl) hS 0 rfl rfl 27 (by decide) fl_159 (fun _ h9 => h9) rfl (by decide +kernel) rfl rfl (Nat.le_of_ble_eq_true rfl) dX7_told_2 (fun H locs (hP : va_P D vwCl [(a_t, .inr (6, [.int v_t_thrown, .ref a_t_text, .int v_t_textSize, .int v_t_place, .ref a_t_readPage, .ref a_t_page, .ref a_t_trial, .ref a_t_work, .ref a_t_book, .int v_t_doings, .ref a_t_kept, .ref a_t_isKept, .int v_t_seen, .ref a_t_seenWhat, .ref a_t_seenV, .ref a_t_seenIs, .long v_t_seed, .ref a_t_label, .ref a_t_finds, .ref a_t_reason, .ref a_t_caseFirst, .int v_t_cases, .ref a_t_brief, .ref a_t_printed, .int v_t_printedSize, .ref a_t_renamed, .ref a_t_worth, .int ((0 : Int32))])), (a_t_caseFirst, .inl (cI, 32, .inl r_t_caseFirst)), (a_t_finds, .inl (cI, 32, .inl r_t_finds)), (a_q1, .inl (cI, 265, .inl r_q1))] H) _ hS => ?_)
  refine lv_iload hx hb dX7_told_5 (lv_at hl 4 rfl) ?_
  refine lv_iconst (v := (2)) hx hb dX7_told_7 (by decide) ?_
  refine lv_icmp_ne (tgt := 71) hx hb dX7_told_8 (by decide) (fun c9 => ?_) (fun c9 => ?_)
  · have hf := pn_ifp c9 hf
    refine lv_iload hx hb dX7_told_71 (lv_at hl 4 rfl) ?_
    refine lv_iconst (v := (3)) hx hb dX7_told_73 (by decide) ?_
    refine lv_icmp_ne (tgt := 96) hx hb dX7_told_74 (by decide) (fun c10 => ?_) (fun c10 => ?_)
    · have hf := pn_ifp c10 hf
      exact jn96 (0 : Int32) H locs ls hf hP hS (lv_sub hl [0, 1, 2, 3, 4, 5, 6] rfl)
    · have hf := pn_ifq c10 hf
      refine lv_aload_n hx hb dX7_told_77 rfl (lv_at hl 1 rfl) ?_
      refine lv_iload_n hx hb dX7_told_78 rfl (lv_at hl 2 rfl) ?_
      refine lv_iload hx hb dX7_told_79 (lv_at hl 6 rfl) ?_
      refine lv_iload_n hx hb dX7_told_81 rfl (lv_at hl 3 rfl) ?_
      obtain ⟨ru11, hu11, hf⟩ := pn_bd1_at hf
      refine pn_calli [3] (va_runS (As := [.ref a_q1, .int p2, .int p6, .int p3]) (rest := []) ⟨hx, hb, hml, hown, hts⟩ (c_X7_isAhead l D cI cJ cZ a_q1 H.size r_q1 p2 p6 p3 ru11 hu11) (va_cwS 4 hts gX7_told_X7_isAhead rfl rfl rfl hdX7_isAhead ⟨Nat.le_of_ble_eq_true rfl, Nat.le_of_ble_eq_true rfl⟩) (pn_preS [3] hP (hD.addr rfl) hK rfl rfl) rfl rfl hl.1 rfl (lv_room (Nat.le_of_ble_eq_true rfl)) dX7_told_82 ⟨Nat.zero_le _, Nat.zero_le _⟩) hP (hD.addr rfl) hS hA rfl rfl rfl (fun H locs (hP : va_P D vwCl [(a_t, .inr (6, [.int v_t_thrown, .ref a_t_text, .int v_t_textSize, .int v_t_place, .ref a_t_readPage, .ref a_t_page, .ref a_t_trial, .ref a_t_work, .ref a_t_book, .int v_t_doings, .ref a_t_kept, .ref a_t_isKept, .int v_t_seen, .ref a_t_seenWhat, .ref a_t_seenV, .ref a_t_seenIs, .long v_t_seed, .ref a_t_label, .ref a_t_finds, .ref a_t_reason, .ref a_t_caseFirst, .int v_t_cases, .ref a_t_brief, .ref a_t_printed, .int v_t_printedSize, .ref a_t_renamed, .ref a_t_worth, .int ((0 : Int32))])), (a_t_caseFirst, .inl (cI, 32, .inl r_t_caseFirst)), (a_t_finds, .inl (cI, 32, .inl r_t_finds)), (a_q1, .inl (cI, 265, .inl r_q1))] H) _ hS => ?_)
      refine lv_if_ne (tgt := 96) hx hb dX7_told_85 (by decide) (fun c12 => ?_) (fun c12 => ?_)
      · have hf := pn_ifp c12 hf
        exact jn96 (0 : Int32) H locs ls hf hP hS (lv_sub hl [0, 1, 2, 3, 4, 5, 6] rfl)
      · have hf := pn_ifq c12 hf
        refine lv_aload_n hx hb dX7_told_88 rfl (lv_at hl 0 rfl) ?_
        refine lv_iconst (v := (5)) hx hb dX7_told_89 (by decide) ?_
        refine va_put (D := D) (ci := 6) (v := .int (5 : Int32)) (ty := .int) (C := RX7) (T := TX7) (N := 28) hx hb hts hinX7 tyX7 tyX7_ok nmX7 hown hK.1 hP (hD.addr rfl) hS 0 rfl rfl 27 (by decide) fl_159 (fun _ h9 => h9) rfl (by decide +kernel) rfl rfl (Nat.le_of_ble_eq_true rfl) dX7_told_90 (fun H locs (hP : va_P D vwCl [(a_t, .inr (6, [.int v_t_thrown, .ref a_t_text, .int v_t_textSize, .int v_t_place, .ref a_t_readPage, .ref a_t_page, .ref a_t_trial, .ref a_t_work, .ref a_t_book, .int v_t_doings, .ref a_t_kept, .ref a_t_isKept, .int v_t_seen, .ref a_t_seenWhat, .ref a_t_seenV, .ref a_t_seenIs, .long v_t_seed, .ref a_t_label, .ref a_t_finds, .ref a_t_reason, .ref a_t_caseFirst, .int v_t_cases, .ref a_t_brief, .ref a_t_printed, .int v_t_printedSize, .ref a_t_renamed, .ref a_t_worth, .int ((5 : Int32))])), (a_t_caseFirst, .inl (cI, 32, .inl r_t_caseFirst)), (a_t_finds, .inl (cI, 32, .inl r_t_finds)), (a_q1, .inl (cI, 265, .inl r_q1))] H) _ hS => ?_)
        refine lv_bipush (v := (-9)) hx hb dX7_told_93 (by decide) ?_
        cases hf
        rw [hQ]
        exact pn_reti hx hb hr hlocks hP hS rfl dX7_told_95
  · have hf := pn_ifq c9 hf
    refine lv_aload_n hx hb dX7_told_11 rfl (lv_at hl 1 rfl) ?_
    refine lv_iload_n hx hb dX7_told_12 rfl (lv_at hl 2 rfl) ?_
    refine lv_iload_n hx hb dX7_told_13 rfl (lv_at hl 3 rfl) ?_
    obtain ⟨ru13, hu13, hf⟩ := pn_bd1_at hf
    refine pn_calli [3] (va_runS (As := [.ref a_q1, .int p2, .int p3]) (rest := []) ⟨hx, hb, hml, hown, hts⟩ (c_X7_pointed l D cI cJ cZ a_q1 H.size N r_q1 p2 p3 ru13 hu13) (va_cwS 3 hts gX7_told_X7_pointed rfl rfl rfl hdX7_pointed ⟨Nat.le_of_ble_eq_true rfl, Nat.le_of_ble_eq_true rfl⟩) (pn_preS [3] hP (hD.addr rfl) hK rfl rfl) rfl rfl hl.1 rfl (lv_room (Nat.le_of_ble_eq_true rfl)) dX7_told_14 ⟨Nat.zero_le _, Nat.zero_le _⟩) hP (hD.addr rfl) hS hA rfl rfl rfl (fun H locs (hP : va_P D vwCl [(a_t, .inr (6, [.int v_t_thrown, .ref a_t_text, .int v_t_textSize, .int v_t_place, .ref a_t_readPage, .ref a_t_page, .ref a_t_trial, .ref a_t_work, .ref a_t_book, .int v_t_doings, .ref a_t_kept, .ref a_t_isKept, .int v_t_seen, .ref a_t_seenWhat, .ref a_t_seenV, .ref a_t_seenIs, .long v_t_seed, .ref a_t_label, .ref a_t_finds, .ref a_t_reason, .ref a_t_caseFirst, .int v_t_cases, .ref a_t_brief, .ref a_t_printed, .int v_t_printedSize, .ref a_t_renamed, .ref a_t_worth, .int ((0 : Int32))])), (a_t_caseFirst, .inl (cI, 32, .inl r_t_caseFirst)), (a_t_finds, .inl (cI, 32, .inl r_t_finds)), (a_q1, .inl (cI, 265, .inl r_q1))] H) _ hS => ?_)
    refine lv_istore (lv' := [(7, .int ru13), (0, .ref a_t), (1, .ref a_q1), (2, .int p2), (3, .int p3), (4, .int p4), (5, .int p5), (6, .int p6)]) hx hb dX7_told_17 hl (by decide) rfl (fun ls hl => ?_)
    refine lv_aload_n hx hb dX7_told_19 rfl (lv_at hl 1 rfl) ?_
    refine lv_iload hx hb dX7_told_20 (lv_at hl 0 rfl) ?_
    refine lv_bipush (v := (-9)) hx hb dX7_told_22 (by decide) ?_
    refine lv_icmp_ne (tgt := 31) hx hb dX7_told_24 (by decide) (fun c14 => ?_) (fun c14 => ?_)
    · have hf := pn_ifp c14 hf
      refine lv_aload_n hx hb dX7_told_31 rfl (lv_at hl 1 rfl) ?_
      refine va_get (D := D) (ci := 6) (v := .ref a_t_finds) (C := RX7) (T := TX7) (N := 28) hx hb hts hinX7 hown hK.1 hP 0 rfl rfl 18 (by decide) fl_47 (fun _ h9 => h9) rfl dX7_told_32 ?_
      refine lv_iload hx hb dX7_told_35 (lv_at hl 0 rfl) ?_
      obtain ⟨hi16, w15, ew15, hf⟩ := pn_rd_at hf
      refine pn_ldI hx hb hK.1 hP 2 0 rfl rfl hi16 ew15 dX7_told_37 ?_
      refine lv_bipush (v := (-9)) hx hb dX7_told_38 (by decide) ?_
      refine lv_icmp_ne (tgt := 47) hx hb dX7_told_40 (by decide) (fun c17 => ?_) (fun c17 => ?_)
      · have hf := pn_ifp c17 hf
        refine lv_iconst (v := (0)) hx hb dX7_told_47 (by decide) ?_
        refine va_put (D := D) (ci := 6) (v := .int (0 : Int32)) (ty := .int) (C := RX7) (T := TX7) (N := 28) hx hb hts hinX7 tyX7 tyX7_ok nmX7 hown hK.1 hP (hD.addr rfl) hS 0 rfl rfl 27 (by decide) fl_159 (fun _ h9 => h9) rfl (by decide +kernel) rfl rfl (Nat.le_of_ble_eq_true rfl) dX7_told_48 (fun H locs (hP : va_P D vwCl [(a_t, .inr (6, [.int v_t_thrown, .ref a_t_text, .int v_t_textSize, .int v_t_place, .ref a_t_readPage, .ref a_t_page, .ref a_t_trial, .ref a_t_work, .ref a_t_book, .int v_t_doings, .ref a_t_kept, .ref a_t_isKept, .int v_t_seen, .ref a_t_seenWhat, .ref a_t_seenV, .ref a_t_seenIs, .long v_t_seed, .ref a_t_label, .ref a_t_finds, .ref a_t_reason, .ref a_t_caseFirst, .int v_t_cases, .ref a_t_brief, .ref a_t_printed, .int v_t_printedSize, .ref a_t_renamed, .ref a_t_worth, .int ((0 : Int32))])), (a_t_caseFirst, .inl (cI, 32, .inl r_t_caseFirst)), (a_t_finds, .inl (cI, 32, .inl r_t_finds)), (a_q1, .inl (cI, 265, .inl r_q1))] H) _ hS => ?_)
        refine lv_aload_n hx hb dX7_told_51 rfl (lv_at hl 1 rfl) ?_
        refine va_get (D := D) (ci := 6) (v := .int (0 : Int32)) (C := RX7) (T := TX7) (N := 28) hx hb hts hinX7 hown hK.1 hP 0 rfl rfl 27 (by decide) fl_159 (fun _ h9 => h9) rfl dX7_told_52 ?_
        refine lv_if_ne (tgt := 68) hx hb dX7_told_55 (by decide) (fun c18 => ?_) (fun c18 => ?_)
        · have hf := pn_ifp c18 hf
          refine lv_bipush (v := (-9)) hx hb dX7_told_68 (by decide) ?_
          cases hf
          rw [hQ]
          exact pn_reti hx hb hr hlocks hP hS rfl dX7_told_70
        · have hf := pn_ifq c18 hf
          refine lv_aload_n hx hb dX7_told_58 rfl (lv_at hl 1 rfl) ?_
          refine va_get (D := D) (ci := 6) (v := .ref a_t_finds) (C := RX7) (T := TX7) (N := 28) hx hb hts hinX7 hown hK.1 hP 0 rfl rfl 18 (by decide) fl_47 (fun _ h9 => h9) rfl dX7_told_59 ?_
          refine lv_iload hx hb dX7_told_62 (lv_at hl 0 rfl) ?_
          obtain ⟨hi20, w19, ew19, hf⟩ := pn_rd_at hf
          refine pn_ldI hx hb hK.1 hP 2 0 rfl rfl hi20 ew19 dX7_told_64 ?_
          refine lv_goto (tgt := 70) hx hb dX7_told_65 (by decide) ?_
          cases hf
          rw [hQ]
          exact pn_reti hx hb hr hlocks hP hS rfl dX7_told_70
      · have hf := pn_ifq c17 hf
        refine lv_iconst (v := (4)) hx hb dX7_told_43 (by decide) ?_
        refine lv_goto (tgt := 48) hx hb dX7_told_44 (by decide) ?_
        refine va_put (D := D) (ci := 6) (v := .int (4 : Int32)) (ty := .int) (C := RX7) (T := TX7) (N := 28) hx hb hts hinX7 tyX7 tyX7_ok nmX7 hown hK.1 hP (hD.addr rfl) hS 0 rfl rfl 27 (by decide) fl_159 (fun _ h9 => h9) rfl (by decide +kernel) rfl rfl (Nat.le_of_ble_eq_true rfl) dX7_told_48 (fun H locs (hP : va_P D vwCl [(a_t, .inr (6, [.int v_t_thrown, .ref a_t_text, .int v_t_textSize, .int v_t_place, .ref a_t_readPage, .ref a_t_page, .ref a_t_trial, .ref a_t_work, .ref a_t_book, .int v_t_doings, .ref a_t_kept, .ref a_t_isKept, .int v_t_seen, .ref a_t_seenWhat, .ref a_t_seenV, .ref a_t_seenIs, .long v_t_seed, .ref a_t_label, .ref a_t_finds, .ref a_t_reason, .ref a_t_caseFirst, .int v_t_cases, .ref a_t_brief, .ref a_t_printed, .int v_t_printedSize, .ref a_t_renamed, .ref a_t_worth, .int ((4 : Int32))])), (a_t_caseFirst, .inl (cI, 32, .inl r_t_caseFirst)), (a_t_finds, .inl (cI, 32, .inl r_t_finds)), (a_q1, .inl (cI, 265, .inl r_q1))] H) _ hS => ?_)
        refine lv_aload_n hx hb dX7_told_51 rfl (lv_at hl 1 rfl) ?_
        refine va_get (D := D) (ci := 6) (v := .int (4 : Int32)) (C := RX7) (T := TX7) (N := 28) hx hb hts hinX7 hown hK.1 hP 0 rfl rfl 27 (by decide) fl_159 (fun _ h9 => h9) rfl dX7_told_52 ?_
        refine lv_if_ne (tgt := 68) hx hb dX7_told_55 (by decide) (fun c21 => ?_) (fun c21 => ?_)
        · have hf := pn_ifp c21 hf
          refine lv_bipush (v := (-9)) hx hb dX7_told_68 (by decide) ?_
          cases hf
          rw [hQ]
          exact pn_reti hx hb hr hlocks hP hS rfl dX7_told_70
        · have hf := pn_ifq c21 hf
          refine lv_aload_n hx hb dX7_told_58 rfl (lv_at hl 1 rfl) ?_
          refine va_get (D := D) (ci := 6) (v := .ref a_t_finds) (C := RX7) (T := TX7) (N := 28) hx hb hts hinX7 hown hK.1 hP 0 rfl rfl 18 (by decide) fl_47 (fun _ h9 => h9) rfl dX7_told_59 ?_
          refine lv_iload hx hb dX7_told_62 (lv_at hl 0 rfl) ?_
          obtain ⟨hi23, w22, ew22, hf⟩ := pn_rd_at hf
          refine pn_ldI hx hb hK.1 hP 2 0 rfl rfl hi23 ew22 dX7_told_64 ?_
          refine lv_goto (tgt := 70) hx hb dX7_told_65 (by decide) ?_
          cases hf
          rw [hQ]
          exact pn_reti hx hb hr hlocks hP hS rfl dX7_told_70
    · have hf := pn_ifq c14 hf
      refine lv_iconst (v := (3)) hx hb dX7_told_27 (by decide) ?_
      refine lv_goto (tgt := 48) hx hb dX7_told_28 (by decide) ?_
      refine va_put (D := D) (ci := 6) (v := .int (3 : Int32)) (ty := .int) (C := RX7) (T := TX7) (N := 28) hx hb hts hinX7 tyX7 tyX7_ok nmX7 hown hK.1 hP (hD.addr rfl) hS 0 rfl rfl 27 (by decide) fl_159 (fun _ h9 => h9) rfl (by decide +kernel) rfl rfl (Nat.le_of_ble_eq_true rfl) dX7_told_48 (fun H locs (hP : va_P D vwCl [(a_t, .inr (6, [.int v_t_thrown, .ref a_t_text, .int v_t_textSize, .int v_t_place, .ref a_t_readPage, .ref a_t_page, .ref a_t_trial, .ref a_t_work, .ref a_t_book, .int v_t_doings, .ref a_t_kept, .ref a_t_isKept, .int v_t_seen, .ref a_t_seenWhat, .ref a_t_seenV, .ref a_t_seenIs, .long v_t_seed, .ref a_t_label, .ref a_t_finds, .ref a_t_reason, .ref a_t_caseFirst, .int v_t_cases, .ref a_t_brief, .ref a_t_printed, .int v_t_printedSize, .ref a_t_renamed, .ref a_t_worth, .int ((3 : Int32))])), (a_t_caseFirst, .inl (cI, 32, .inl r_t_caseFirst)), (a_t_finds, .inl (cI, 32, .inl r_t_finds)), (a_q1, .inl (cI, 265, .inl r_q1))] H) _ hS => ?_)
      refine lv_aload_n hx hb dX7_told_51 rfl (lv_at hl 1 rfl) ?_
      refine va_get (D := D) (ci := 6) (v := .int (3 : Int32)) (C := RX7) (T := TX7) (N := 28) hx hb hts hinX7 hown hK.1 hP 0 rfl rfl 27 (by decide) fl_159 (fun _ h9 => h9) rfl dX7_told_52 ?_
      refine lv_if_ne (tgt := 68) hx hb dX7_told_55 (by decide) (fun c24 => ?_) (fun c24 => ?_)
      · have hf := pn_ifp c24 hf
        refine lv_bipush (v := (-9)) hx hb dX7_told_68 (by decide) ?_
        cases hf
        rw [hQ]
        exact pn_reti hx hb hr hlocks hP hS rfl dX7_told_70
      · have hf := pn_ifq c24 hf
        refine lv_aload_n hx hb dX7_told_58 rfl (lv_at hl 1 rfl) ?_
        refine va_get (D := D) (ci := 6) (v := .ref a_t_finds) (C := RX7) (T := TX7) (N := 28) hx hb hts hinX7 hown hK.1 hP 0 rfl rfl 18 (by decide) fl_47 (fun _ h9 => h9) rfl dX7_told_59 ?_
        refine lv_iload hx hb dX7_told_62 (lv_at hl 0 rfl) ?_
        obtain ⟨hi26, w25, ew25, hf⟩ := pn_rd_at hf
        refine pn_ldI hx hb hK.1 hP 2 0 rfl rfl hi26 ew25 dX7_told_64 ?_
        refine lv_goto (tgt := 70) hx hb dX7_told_65 (by decide) ?_
        cases hf
        rw [hQ]
        exact pn_reti hx hb hr hlocks hP hS rfl dX7_told_70
def lp_X7_find_8 (N : Nat) (r_q1 : Nat → Int32) (p2 : Int32) (v_t_cases : Int32) (r_t_caseFirst : Nat → Int32) (r_t_label : Nat → Int32) : Nat → Int32 → Int32 → (Nat → Int32) → (Nat → Int32) → Option (Int32 × (Nat → Int32) × (Nat → Int32))
  | 0, _, _, _, _ => none
  | n + 1, x3, v_t_lastReason, r_t_finds, r_t_reason =>
    if (32 : Int32) ≤ x3 then
  some (v_t_lastReason, r_t_finds, r_t_reason)
  else
  pn_wrI 32 r_t_finds x3 (-9 : Int32) fun g2 =>
  pn_wrI 32 r_t_reason x3 (0 : Int32) fun g4 =>
  pn_bd1 (f_X7_isSpelled r_q1 p2 x3) fun ru6 =>
  if ru6 = 0 then
  pn_bd1 (f_X7_isLeft r_q1 p2 x3) fun ru8 =>
  if ru8 = 0 then
  pn_nm (x3 + (1 : Int32)) fun z10 =>
  lp_X7_find_8 N r_q1 p2 v_t_cases r_t_caseFirst r_t_label n z10 v_t_lastReason g2 g4
  else
  pn_bd1 (f_X7_ref r_q1 x3 (0 : Int32)) fun ru11 =>
  pn_bd1 (f_X7_ref r_q1 x3 (5 : Int32)) fun ru12 =>
  pn_bd1 (f_X7_ref r_q1 x3 (6 : Int32)) fun ru13 =>
  pn_bd2 (f_X7_told N v_t_cases v_t_lastReason r_t_caseFirst g2 r_q1 p2 x3 ru11 ru12 ru13) fun ru14 v_t_lastReason_u14 =>
  pn_wrI 32 g2 x3 ru14 fun g15 =>
  pn_wrI 32 g4 x3 v_t_lastReason_u14 fun g17 =>
  pn_nm (x3 + (1 : Int32)) fun z19 =>
  lp_X7_find_8 N r_q1 p2 v_t_cases r_t_caseFirst r_t_label n z19 v_t_lastReason_u14 g15 g17
  else
  pn_bd1 (f_X7_caseOf N v_t_cases r_t_caseFirst r_t_label x3) fun ru20 =>
  pn_wrI 32 g2 x3 ru20 fun g21 =>
  pn_nm (x3 + (1 : Int32)) fun z23 =>
  lp_X7_find_8 N r_q1 p2 v_t_cases r_t_caseFirst r_t_label n z23 v_t_lastReason g21 g4
def f_X7_find (N : Nat) (v_t_cases : Int32) (v_t_lastReason : Int32) (r_t_caseFirst : Nat → Int32) (r_t_finds : Nat → Int32) (r_t_label : Nat → Int32) (r_t_reason : Nat → Int32) (r_q1 : Nat → Int32) (p2 : Int32) : Option (Int32 × Int32 × (Nat → Int32) × (Nat → Int32) × (Nat → Int32) × (Nat → Int32)) :=
  pn_bd3 (f_X7_layCases N v_t_cases r_t_caseFirst r_t_label r_q1 p2) fun v_t_cases_u24 r_t_caseFirst_u24 r_t_label_u24 =>
  pn_bd1 (lp_X7_find_8 N r_q1 p2 v_t_cases_u24 r_t_caseFirst_u24 r_t_label_u24 N (0 : Int32) v_t_lastReason r_t_finds r_t_reason) (fun X8 => (pn_u3 fun v_t_lastReason_w25 r_t_finds_w25 r_t_reason_w25 => some (v_t_cases_u24, v_t_lastReason_w25, r_t_caseFirst_u24, r_t_finds_w25, r_t_label_u24, r_t_reason_w25)) X8)
set_option maxHeartbeats 4000000 in
set_option maxRecDepth 100000 in
theorem c_X7_find (l : Launch) (D : va_G) (cI cJ cZ : ClassId) (a_t a_t_text a_t_readPage a_t_page a_t_trial a_t_work a_t_book a_t_kept a_t_isKept a_t_seenWhat a_t_seenV a_t_seenIs a_t_label a_t_finds a_t_reason a_t_caseFirst a_t_brief a_t_printed a_t_renamed a_t_worth a_q1 : Nat) (sz : Nat) (v_t_thrown : Int32) (v_t_textSize : Int32) (v_t_place : Int32) (v_t_doings : Int32) (v_t_seen : Int32) (v_t_seed : Int64) (v_t_printedSize : Int32) (N : Nat) (v_t_cases : Int32) (v_t_lastReason : Int32) (r_t_caseFirst : Nat → Int32) (r_t_finds : Nat → Int32) (r_t_label : Nat → Int32) (r_t_reason : Nat → Int32) (r_q1 : Nat → Int32) (p2 : Int32) (o_t_cases : Int32) (o_t_lastReason : Int32) (o_t_caseFirst : Nat → Int32) (o_t_finds : Nat → Int32) (o_t_label : Nat → Int32) (o_t_reason : Nat → Int32) (hf : f_X7_find N v_t_cases v_t_lastReason r_t_caseFirst r_t_finds r_t_label r_t_reason r_q1 p2 = some (o_t_cases, o_t_lastReason, o_t_caseFirst, o_t_finds, o_t_label, o_t_reason)) : Met l yX7_find wsX7_find { frames := 5, cells := 0, slots := 0, locals := 124 } (pn_Pc D cI cJ cZ [.ref a_t, .ref a_q1, .int p2] [(a_t, .inr (6, [.int v_t_thrown, .ref a_t_text, .int v_t_textSize, .int v_t_place, .ref a_t_readPage, .ref a_t_page, .ref a_t_trial, .ref a_t_work, .ref a_t_book, .int v_t_doings, .ref a_t_kept, .ref a_t_isKept, .int v_t_seen, .ref a_t_seenWhat, .ref a_t_seenV, .ref a_t_seenIs, .long v_t_seed, .ref a_t_label, .ref a_t_finds, .ref a_t_reason, .ref a_t_caseFirst, .int v_t_cases, .ref a_t_brief, .ref a_t_printed, .int v_t_printedSize, .ref a_t_renamed, .ref a_t_worth, .int v_t_lastReason])), (a_t_caseFirst, .inl (cI, 32, .inl r_t_caseFirst)), (a_t_finds, .inl (cI, 32, .inl r_t_finds)), (a_t_label, .inl (cI, 32, .inl r_t_label)), (a_t_reason, .inl (cI, 32, .inl r_t_reason)), (a_q1, .inl (cI, 265, .inl r_q1))] sz) (pn_Qv D [(a_t, .inr (6, [.int v_t_thrown, .ref a_t_text, .int v_t_textSize, .int v_t_place, .ref a_t_readPage, .ref a_t_page, .ref a_t_trial, .ref a_t_work, .ref a_t_book, .int v_t_doings, .ref a_t_kept, .ref a_t_isKept, .int v_t_seen, .ref a_t_seenWhat, .ref a_t_seenV, .ref a_t_seenIs, .long v_t_seed, .ref a_t_label, .ref a_t_finds, .ref a_t_reason, .ref a_t_caseFirst, .int o_t_cases, .ref a_t_brief, .ref a_t_printed, .int v_t_printedSize, .ref a_t_renamed, .ref a_t_worth, .int o_t_lastReason])), (a_t_caseFirst, .inl (cI, 32, .inl o_t_caseFirst)), (a_t_finds, .inl (cI, 32, .inl o_t_finds)), (a_t_label, .inl (cI, 32, .inl o_t_label)), (a_t_reason, .inl (cI, 32, .inl o_t_reason)), (a_q1, .inl (cI, 265, .inl r_q1))] (va_A [(a_t, .inr (6, [.int v_t_thrown, .ref a_t_text, .int v_t_textSize, .int v_t_place, .ref a_t_readPage, .ref a_t_page, .ref a_t_trial, .ref a_t_work, .ref a_t_book, .int v_t_doings, .ref a_t_kept, .ref a_t_isKept, .int v_t_seen, .ref a_t_seenWhat, .ref a_t_seenV, .ref a_t_seenIs, .long v_t_seed, .ref a_t_label, .ref a_t_finds, .ref a_t_reason, .ref a_t_caseFirst, .int v_t_cases, .ref a_t_brief, .ref a_t_printed, .int v_t_printedSize, .ref a_t_renamed, .ref a_t_worth, .int v_t_lastReason])), (a_t_caseFirst, .inl (cI, 32, .inl r_t_caseFirst)), (a_t_finds, .inl (cI, 32, .inl r_t_finds)), (a_t_label, .inl (cI, 32, .inl r_t_label)), (a_t_reason, .inl (cI, 32, .inl r_t_reason)), (a_q1, .inl (cI, 265, .inl r_q1))] sz)) 0 0 (va_A [(a_t, .inr (6, [.int v_t_thrown, .ref a_t_text, .int v_t_textSize, .int v_t_place, .ref a_t_readPage, .ref a_t_page, .ref a_t_trial, .ref a_t_work, .ref a_t_book, .int v_t_doings, .ref a_t_kept, .ref a_t_isKept, .int v_t_seen, .ref a_t_seenWhat, .ref a_t_seenV, .ref a_t_seenIs, .long v_t_seed, .ref a_t_label, .ref a_t_finds, .ref a_t_reason, .ref a_t_caseFirst, .int v_t_cases, .ref a_t_brief, .ref a_t_printed, .int v_t_printedSize, .ref a_t_renamed, .ref a_t_worth, .int v_t_lastReason])), (a_t_caseFirst, .inl (cI, 32, .inl r_t_caseFirst)), (a_t_finds, .inl (cI, 32, .inl r_t_finds)), (a_t_label, .inl (cI, 32, .inl r_t_label)), (a_t_reason, .inl (cI, 32, .inl r_t_reason)), (a_q1, .inl (cI, 265, .inl r_q1))] sz) := by
  refine pn_entry (cc := cX7_find) (maxL := 4) (ret := none) (Qf := pn_Qv D [(a_t, .inr (6, [.int v_t_thrown, .ref a_t_text, .int v_t_textSize, .int v_t_place, .ref a_t_readPage, .ref a_t_page, .ref a_t_trial, .ref a_t_work, .ref a_t_book, .int v_t_doings, .ref a_t_kept, .ref a_t_isKept, .int v_t_seen, .ref a_t_seenWhat, .ref a_t_seenV, .ref a_t_seenIs, .long v_t_seed, .ref a_t_label, .ref a_t_finds, .ref a_t_reason, .ref a_t_caseFirst, .int o_t_cases, .ref a_t_brief, .ref a_t_printed, .int v_t_printedSize, .ref a_t_renamed, .ref a_t_worth, .int o_t_lastReason])), (a_t_caseFirst, .inl (cI, 32, .inl o_t_caseFirst)), (a_t_finds, .inl (cI, 32, .inl o_t_finds)), (a_t_label, .inl (cI, 32, .inl o_t_label)), (a_t_reason, .inl (cI, 32, .inl o_t_reason)), (a_q1, .inl (cI, 265, .inl r_q1))]) (by decide) rfl (Nat.le_of_ble_eq_true rfl) ?_
  intro p e s m args below meth c A ls H locs Qm hQ hx hb hr hlocks hml hown hts hK hP hD hA hS hl
  have hl : lv_has ls 4 [(0, .ref a_t), (1, .ref a_q1), (2, .int p2)] := hl
  have hinX7 : ∀ w ∈ wsX70, w ∈ wsX7_find := by decide +kernel
  have fl_47 := hts (.fieldLink RX7 47 "PointingNotesModel" "finds" "[I") (by decide +kernel)
  have fl_50 := hts (.fieldLink RX7 50 "PointingNotesModel" "reason" "[I") (by decide +kernel)
  have fl_159 := hts (.fieldLink RX7 159 "PointingNotesModel" "lastReason" "I") (by decide +kernel)
  rw [f_X7_find] at hf
  have lp8 : ∀ (n : Nat) (x3 : Int32) (v_t_cases : Int32) (v_t_lastReason : Int32) (r_t_caseFirst : Nat → Int32) (r_t_finds : Nat → Int32) (r_t_label : Nat → Int32) (r_t_reason : Nat → Int32) (X : Int32 × (Nat → Int32) × (Nat → Int32)) (H : Heap) (locs : List Loc) (ls : Array Slot), lp_X7_find_8 N r_q1 p2 v_t_cases r_t_caseFirst r_t_label n x3 v_t_lastReason r_t_finds r_t_reason = some X → va_P D vwCl [(a_t, .inr (6, [.int v_t_thrown, .ref a_t_text, .int v_t_textSize, .int v_t_place, .ref a_t_readPage, .ref a_t_page, .ref a_t_trial, .ref a_t_work, .ref a_t_book, .int v_t_doings, .ref a_t_kept, .ref a_t_isKept, .int v_t_seen, .ref a_t_seenWhat, .ref a_t_seenV, .ref a_t_seenIs, .long v_t_seed, .ref a_t_label, .ref a_t_finds, .ref a_t_reason, .ref a_t_caseFirst, .int v_t_cases, .ref a_t_brief, .ref a_t_printed, .int v_t_printedSize, .ref a_t_renamed, .ref a_t_worth, .int v_t_lastReason])), (a_t_caseFirst, .inl (cI, 32, .inl r_t_caseFirst)), (a_t_finds, .inl (cI, 32, .inl r_t_finds)), (a_t_label, .inl (cI, 32, .inl r_t_label)), (a_t_reason, .inl (cI, 32, .inl r_t_reason)), (a_q1, .inl (cI, 265, .inl r_q1))] H → va_S A s.heap H locs → lv_has ls 4 [(0, .ref a_t), (1, .ref a_q1), (2, .int p2), (3, .int x3)] → (∀  (v_t_lastReason' : Int32) (r_t_finds' : Nat → Int32) (r_t_reason' : Nat → Int32) (H : Heap) (locs : List Loc) (ls : Array Slot), X = (v_t_lastReason', r_t_finds', r_t_reason') → va_P D vwCl [(a_t, .inr (6, [.int v_t_thrown, .ref a_t_text, .int v_t_textSize, .int v_t_place, .ref a_t_readPage, .ref a_t_page, .ref a_t_trial, .ref a_t_work, .ref a_t_book, .int v_t_doings, .ref a_t_kept, .ref a_t_isKept, .int v_t_seen, .ref a_t_seenWhat, .ref a_t_seenV, .ref a_t_seenIs, .long v_t_seed, .ref a_t_label, .ref a_t_finds, .ref a_t_reason, .ref a_t_caseFirst, .int v_t_cases, .ref a_t_brief, .ref a_t_printed, .int v_t_printedSize, .ref a_t_renamed, .ref a_t_worth, .int (v_t_lastReason')])), (a_t_caseFirst, .inl (cI, 32, .inl r_t_caseFirst)), (a_t_finds, .inl (cI, 32, .inl (r_t_finds'))), (a_t_label, .inl (cI, 32, .inl r_t_label)), (a_t_reason, .inl (cI, 32, .inl (r_t_reason'))), (a_q1, .inl (cI, 265, .inl r_q1))] H → va_S A s.heap H locs → lv_has ls 4 [] → W p l e { frames := 5, cells := 0, slots := 0, locals := 124 } s m args below meth c H locs 0 0 Qm (F0 m 109 ls [])) → W p l e { frames := 5, cells := 0, slots := 0, locals := 124 } s m args below meth c H locs 0 0 Qm (F0 m 8 ls []) := by
    intro n
    induction n with
    | zero => intro x3 v_t_cases v_t_lastReason r_t_caseFirst r_t_finds r_t_label r_t_reason X H locs ls hf; cases hf
    | succ n ih =>
      intro x3 v_t_cases v_t_lastReason r_t_caseFirst r_t_finds r_t_label r_t_reason X H locs ls hf hP hS hl kx109
      rw [lp_X7_find_8] at hf
      refine lv_iload_n hx hb dX7_find_8 rfl (lv_at hl 3 rfl) ?_
      refine lv_bipush (v := (32)) hx hb dX7_find_9 (by decide) ?_
      refine lv_icmp_ge (tgt := 109) hx hb dX7_find_11 (by decide) (fun c1 => ?_) (fun c1 => ?_)
      · have hf := pn_ifp c1 hf
        exact kx109 v_t_lastReason r_t_finds r_t_reason H locs ls (Option.some.inj hf).symm hP hS (lv_sub hl [] rfl)
      · have hf := pn_ifn c1 hf
        refine lv_aload_n hx hb dX7_find_14 rfl (lv_at hl 0 rfl) ?_
        refine va_get (D := D) (ci := 6) (v := .ref a_t_finds) (C := RX7) (T := TX7) (N := 28) hx hb hts hinX7 hown hK.1 hP 0 rfl rfl 18 (by decide) fl_47 (fun _ h9 => h9) rfl dX7_find_15 ?_
        refine lv_iload_n hx hb dX7_find_18 rfl (lv_at hl 3 rfl) ?_
        refine lv_bipush (v := (-9)) hx hb dX7_find_19 (by decide) ?_
        obtain ⟨hi3, g2, eg2, hf⟩ := pn_wrI_at hf
        refine pn_stI hx hb hK.1 hP (hD.addr rfl) hS 2 0 rfl rfl hi3 eg2 dX7_find_21 (fun H locs (hP : va_P D vwCl [(a_t, .inr (6, [.int v_t_thrown, .ref a_t_text, .int v_t_textSize, .int v_t_place, .ref a_t_readPage, .ref a_t_page, .ref a_t_trial, .ref a_t_work, .ref a_t_book, .int v_t_doings, .ref a_t_kept, .ref a_t_isKept, .int v_t_seen, .ref a_t_seenWhat, .ref a_t_seenV, .ref a_t_seenIs, .long v_t_seed, .ref a_t_label, .ref a_t_finds, .ref a_t_reason, .ref a_t_caseFirst, .int v_t_cases, .ref a_t_brief, .ref a_t_printed, .int v_t_printedSize, .ref a_t_renamed, .ref a_t_worth, .int v_t_lastReason])), (a_t_caseFirst, .inl (cI, 32, .inl r_t_caseFirst)), (a_t_finds, .inl (cI, 32, .inl g2)), (a_t_label, .inl (cI, 32, .inl r_t_label)), (a_t_reason, .inl (cI, 32, .inl r_t_reason)), (a_q1, .inl (cI, 265, .inl r_q1))] H) _ hS => ?_)
        refine lv_aload_n hx hb dX7_find_22 rfl (lv_at hl 0 rfl) ?_
        refine va_get (D := D) (ci := 6) (v := .ref a_t_reason) (C := RX7) (T := TX7) (N := 28) hx hb hts hinX7 hown hK.1 hP 0 rfl rfl 19 (by decide) fl_50 (fun _ h9 => h9) rfl dX7_find_23 ?_
        refine lv_iload_n hx hb dX7_find_26 rfl (lv_at hl 3 rfl) ?_
        refine lv_iconst (v := (0)) hx hb dX7_find_27 (by decide) ?_
        obtain ⟨hi5, g4, eg4, hf⟩ := pn_wrI_at hf
        refine pn_stI hx hb hK.1 hP (hD.addr rfl) hS 4 0 rfl rfl hi5 eg4 dX7_find_28 (fun H locs (hP : va_P D vwCl [(a_t, .inr (6, [.int v_t_thrown, .ref a_t_text, .int v_t_textSize, .int v_t_place, .ref a_t_readPage, .ref a_t_page, .ref a_t_trial, .ref a_t_work, .ref a_t_book, .int v_t_doings, .ref a_t_kept, .ref a_t_isKept, .int v_t_seen, .ref a_t_seenWhat, .ref a_t_seenV, .ref a_t_seenIs, .long v_t_seed, .ref a_t_label, .ref a_t_finds, .ref a_t_reason, .ref a_t_caseFirst, .int v_t_cases, .ref a_t_brief, .ref a_t_printed, .int v_t_printedSize, .ref a_t_renamed, .ref a_t_worth, .int v_t_lastReason])), (a_t_caseFirst, .inl (cI, 32, .inl r_t_caseFirst)), (a_t_finds, .inl (cI, 32, .inl g2)), (a_t_label, .inl (cI, 32, .inl r_t_label)), (a_t_reason, .inl (cI, 32, .inl g4)), (a_q1, .inl (cI, 265, .inl r_q1))] H) _ hS => ?_)
        refine lv_aload_n hx hb dX7_find_29 rfl (lv_at hl 1 rfl) ?_
        refine lv_iload_n hx hb dX7_find_30 rfl (lv_at hl 2 rfl) ?_
        refine lv_iload_n hx hb dX7_find_31 rfl (lv_at hl 3 rfl) ?_
        obtain ⟨ru6, hu6, hf⟩ := pn_bd1_at hf
        refine pn_calli [5] (va_runS (As := [.ref a_q1, .int p2, .int x3]) (rest := []) ⟨hx, hb, hml, hown, hts⟩ (c_X7_isSpelled l D cI cJ cZ a_q1 H.size r_q1 p2 x3 ru6 hu6) (va_cwS 3 hts gX7_find_X7_isSpelled rfl rfl rfl hdX7_isSpelled ⟨Nat.le_of_ble_eq_true rfl, Nat.le_of_ble_eq_true rfl⟩) (pn_preS [5] hP (hD.addr rfl) hK rfl rfl) rfl rfl hl.1 rfl (lv_room (Nat.le_of_ble_eq_true rfl)) dX7_find_32 ⟨Nat.zero_le _, Nat.zero_le _⟩) hP (hD.addr rfl) hS hA rfl rfl rfl (fun H locs (hP : va_P D vwCl [(a_t, .inr (6, [.int v_t_thrown, .ref a_t_text, .int v_t_textSize, .int v_t_place, .ref a_t_readPage, .ref a_t_page, .ref a_t_trial, .ref a_t_work, .ref a_t_book, .int v_t_doings, .ref a_t_kept, .ref a_t_isKept, .int v_t_seen, .ref a_t_seenWhat, .ref a_t_seenV, .ref a_t_seenIs, .long v_t_seed, .ref a_t_label, .ref a_t_finds, .ref a_t_reason, .ref a_t_caseFirst, .int v_t_cases, .ref a_t_brief, .ref a_t_printed, .int v_t_printedSize, .ref a_t_renamed, .ref a_t_worth, .int v_t_lastReason])), (a_t_caseFirst, .inl (cI, 32, .inl r_t_caseFirst)), (a_t_finds, .inl (cI, 32, .inl g2)), (a_t_label, .inl (cI, 32, .inl r_t_label)), (a_t_reason, .inl (cI, 32, .inl g4)), (a_q1, .inl (cI, 265, .inl r_q1))] H) _ hS => ?_)
        refine lv_if_eq (tgt := 52) hx hb dX7_find_35 (by decide) (fun c7 => ?_) (fun c7 => ?_)
        · have hf := pn_ifp c7 hf
          refine lv_aload_n hx hb dX7_find_52 rfl (lv_at hl 1 rfl) ?_
          refine lv_iload_n hx hb dX7_find_53 rfl (lv_at hl 2 rfl) ?_
          refine lv_iload_n hx hb dX7_find_54 rfl (lv_at hl 3 rfl) ?_
          obtain ⟨ru8, hu8, hf⟩ := pn_bd1_at hf
          refine pn_calli [5] (va_runS (As := [.ref a_q1, .int p2, .int x3]) (rest := []) ⟨hx, hb, hml, hown, hts⟩ (c_X7_isLeft l D cI cJ cZ a_q1 H.size r_q1 p2 x3 ru8 hu8) (va_cwS 3 hts gX7_find_X7_isLeft rfl rfl rfl hdX7_isLeft ⟨Nat.le_of_ble_eq_true rfl, Nat.le_of_ble_eq_true rfl⟩) (pn_preS [5] hP (hD.addr rfl) hK rfl rfl) rfl rfl hl.1 rfl (lv_room (Nat.le_of_ble_eq_true rfl)) dX7_find_55 ⟨Nat.zero_le _, Nat.zero_le _⟩) hP (hD.addr rfl) hS hA rfl rfl rfl (fun H locs (hP : va_P D vwCl [(a_t, .inr (6, [.int v_t_thrown, .ref a_t_text, .int v_t_textSize, .int v_t_place, .ref a_t_readPage, .ref a_t_page, .ref a_t_trial, .ref a_t_work, .ref a_t_book, .int v_t_doings, .ref a_t_kept, .ref a_t_isKept, .int v_t_seen, .ref a_t_seenWhat, .ref a_t_seenV, .ref a_t_seenIs, .long v_t_seed, .ref a_t_label, .ref a_t_finds, .ref a_t_reason, .ref a_t_caseFirst, .int v_t_cases, .ref a_t_brief, .ref a_t_printed, .int v_t_printedSize, .ref a_t_renamed, .ref a_t_worth, .int v_t_lastReason])), (a_t_caseFirst, .inl (cI, 32, .inl r_t_caseFirst)), (a_t_finds, .inl (cI, 32, .inl g2)), (a_t_label, .inl (cI, 32, .inl r_t_label)), (a_t_reason, .inl (cI, 32, .inl g4)), (a_q1, .inl (cI, 265, .inl r_q1))] H) _ hS => ?_)
          refine lv_if_eq (tgt := 103) hx hb dX7_find_58 (by decide) (fun c9 => ?_) (fun c9 => ?_)
          · have hf := pn_ifp c9 hf
            obtain ⟨z10, ez10⟩ : ∃ y : Int32, y = x3 + (1) := ⟨_, rfl⟩
            have hf := pn_nm_at ez10 hf
            refine lv_iinc (v := z10) (lv' := [(3, .int z10), (0, .ref a_t), (1, .ref a_q1), (2, .int p2)]) hx hb dX7_find_103 hl (k := 3) rfl (by rw [ez10]; rfl) (by decide) rfl (fun ls hl => ?_)
            refine lv_goto (tgt := 8) hx hb dX7_find_106 (by decide) ?_
            exact ih z10 v_t_cases v_t_lastReason r_t_caseFirst g2 r_t_label g4 X H locs ls hf hP hS (lv_sub hl [1, 2, 3, 0] rfl) kx109
          · have hf := pn_ifn c9 hf
            refine lv_aload_n hx hb dX7_find_61 rfl (lv_at hl 0 rfl) ?_
            refine va_get (D := D) (ci := 6) (v := .ref a_t_finds) (C := RX7) (T := TX7) (N := 28) hx hb hts hinX7 hown hK.1 hP 0 rfl rfl 18 (by decide) fl_47 (fun _ h9 => h9) rfl dX7_find_62 ?_
            refine lv_iload_n hx hb dX7_find_65 rfl (lv_at hl 3 rfl) ?_
            refine lv_aload_n hx hb dX7_find_66 rfl (lv_at hl 0 rfl) ?_
            refine lv_aload_n hx hb dX7_find_67 rfl (lv_at hl 1 rfl) ?_
            refine lv_iload_n hx hb dX7_find_68 rfl (lv_at hl 2 rfl) ?_
            refine lv_iload_n hx hb dX7_find_69 rfl (lv_at hl 3 rfl) ?_
            refine lv_aload_n hx hb dX7_find_70 rfl (lv_at hl 1 rfl) ?_
            refine lv_iload_n hx hb dX7_find_71 rfl (lv_at hl 3 rfl) ?_
            refine lv_iconst (v := (0)) hx hb dX7_find_72 (by decide) ?_
            obtain ⟨ru11, hu11, hf⟩ := pn_bd1_at hf
            refine pn_calli [5] (va_runS (As := [.ref a_q1, .int x3, .int (0 : Int32)]) (rest := [.int x3, .int p2, .ref a_q1, .ref a_t, .int x3, .ref a_t_finds]) ⟨hx, hb, hml, hown, hts⟩ (c_X7_ref l D cI cJ cZ a_q1 H.size r_q1 x3 (0 : Int32) ru11 hu11) (va_cwS 3 hts gX7_find_X7_ref rfl rfl rfl hdX7_ref ⟨Nat.le_of_ble_eq_true rfl, Nat.le_of_ble_eq_true rfl⟩) (pn_preS [5] hP (hD.addr rfl) hK rfl rfl) rfl rfl hl.1 rfl (lv_room (Nat.le_of_ble_eq_true rfl)) dX7_find_73 ⟨Nat.zero_le _, Nat.zero_le _⟩) hP (hD.addr rfl) hS hA rfl rfl rfl (fun H locs (hP : va_P D vwCl [(a_t, .inr (6, [.int v_t_thrown, .ref a_t_text, .int v_t_textSize, .int v_t_place, .ref a_t_readPage, .ref a_t_page, .ref a_t_trial, .ref a_t_work, .ref a_t_book, .int v_t_doings, .ref a_t_kept, .ref a_t_isKept, .int v_t_seen, .ref a_t_seenWhat, .ref a_t_seenV, .ref a_t_seenIs, .long v_t_seed, .ref a_t_label, .ref a_t_finds, .ref a_t_reason, .ref a_t_caseFirst, .int v_t_cases, .ref a_t_brief, .ref a_t_printed, .int v_t_printedSize, .ref a_t_renamed, .ref a_t_worth, .int v_t_lastReason])), (a_t_caseFirst, .inl (cI, 32, .inl r_t_caseFirst)), (a_t_finds, .inl (cI, 32, .inl g2)), (a_t_label, .inl (cI, 32, .inl r_t_label)), (a_t_reason, .inl (cI, 32, .inl g4)), (a_q1, .inl (cI, 265, .inl r_q1))] H) _ hS => ?_)
            refine lv_aload_n hx hb dX7_find_76 rfl (lv_at hl 1 rfl) ?_
            refine lv_iload_n hx hb dX7_find_77 rfl (lv_at hl 3 rfl) ?_
            refine lv_iconst (v := (5)) hx hb dX7_find_78 (by decide) ?_
            obtain ⟨ru12, hu12, hf⟩ := pn_bd1_at hf
            refine pn_calli [5] (va_runS (As := [.ref a_q1, .int x3, .int (5 : Int32)]) (rest := [.int ru11, .int x3, .int p2, .ref a_q1, .ref a_t, .int x3, .ref a_t_finds]) ⟨hx, hb, hml, hown, hts⟩ (c_X7_ref l D cI cJ cZ a_q1 H.size r_q1 x3 (5 : Int32) ru12 hu12) (va_cwS 3 hts gX7_find_X7_ref rfl rfl rfl hdX7_ref ⟨Nat.le_of_ble_eq_true rfl, Nat.le_of_ble_eq_true rfl⟩) (pn_preS [5] hP (hD.addr rfl) hK rfl rfl) rfl rfl hl.1 rfl (lv_room (Nat.le_of_ble_eq_true rfl)) dX7_find_79 ⟨Nat.zero_le _, Nat.zero_le _⟩) hP (hD.addr rfl) hS hA rfl rfl rfl (fun H locs (hP : va_P D vwCl [(a_t, .inr (6, [.int v_t_thrown, .ref a_t_text, .int v_t_textSize, .int v_t_place, .ref a_t_readPage, .ref a_t_page, .ref a_t_trial, .ref a_t_work, .ref a_t_book, .int v_t_doings, .ref a_t_kept, .ref a_t_isKept, .int v_t_seen, .ref a_t_seenWhat, .ref a_t_seenV, .ref a_t_seenIs, .long v_t_seed, .ref a_t_label, .ref a_t_finds, .ref a_t_reason, .ref a_t_caseFirst, .int v_t_cases, .ref a_t_brief, .ref a_t_printed, .int v_t_printedSize, .ref a_t_renamed, .ref a_t_worth, .int v_t_lastReason])), (a_t_caseFirst, .inl (cI, 32, .inl r_t_caseFirst)), (a_t_finds, .inl (cI, 32, .inl g2)), (a_t_label, .inl (cI, 32, .inl r_t_label)), (a_t_reason, .inl (cI, 32, .inl g4)), (a_q1, .inl (cI, 265, .inl r_q1))] H) _ hS => ?_)
            refine lv_aload_n hx hb dX7_find_82 rfl (lv_at hl 1 rfl) ?_
            refine lv_iload_n hx hb dX7_find_83 rfl (lv_at hl 3 rfl) ?_
            refine lv_bipush (v := (6)) hx hb dX7_find_84 (by decide) ?_
            obtain ⟨ru13, hu13, hf⟩ := pn_bd1_at hf
            refine pn_calli [5] (va_runS (As := [.ref a_q1, .int x3, .int (6 : Int32)]) (rest := [.int ru12, .int ru11, .int x3, .int p2, .ref a_q1, .ref a_t, .int x3, .ref a_t_finds]) ⟨hx, hb, hml, hown, hts⟩ (c_X7_ref l D cI cJ cZ a_q1 H.size r_q1 x3 (6 : Int32) ru13 hu13) (va_cwS 3 hts gX7_find_X7_ref rfl rfl rfl hdX7_ref ⟨Nat.le_of_ble_eq_true rfl, Nat.le_of_ble_eq_true rfl⟩) (pn_preS [5] hP (hD.addr rfl) hK rfl rfl) rfl rfl hl.1 rfl (lv_room (Nat.le_of_ble_eq_true rfl)) dX7_find_86 ⟨Nat.zero_le _, Nat.zero_le _⟩) hP (hD.addr rfl) hS hA rfl rfl rfl (fun H locs (hP : va_P D vwCl [(a_t, .inr (6, [.int v_t_thrown, .ref a_t_text, .int v_t_textSize, .int v_t_place, .ref a_t_readPage, .ref a_t_page, .ref a_t_trial, .ref a_t_work, .ref a_t_book, .int v_t_doings, .ref a_t_kept, .ref a_t_isKept, .int v_t_seen, .ref a_t_seenWhat, .ref a_t_seenV, .ref a_t_seenIs, .long v_t_seed, .ref a_t_label, .ref a_t_finds, .ref a_t_reason, .ref a_t_caseFirst, .int v_t_cases, .ref a_t_brief, .ref a_t_printed, .int v_t_printedSize, .ref a_t_renamed, .ref a_t_worth, .int v_t_lastReason])), (a_t_caseFirst, .inl (cI, 32, .inl r_t_caseFirst)), (a_t_finds, .inl (cI, 32, .inl g2)), (a_t_label, .inl (cI, 32, .inl r_t_label)), (a_t_reason, .inl (cI, 32, .inl g4)), (a_q1, .inl (cI, 265, .inl r_q1))] H) _ hS => ?_)
            obtain ⟨ru14, v_t_lastReason_u14, hu14, hf⟩ := pn_bd2_at hf
            refine pn_calli [0, 1, 2, 5] (va_runV (As := [.ref a_q1, .int p2, .int x3, .int ru11, .int ru12, .int ru13]) (rest := [.int x3, .ref a_t_finds]) ⟨hx, hb, hml, hown, hts⟩ (c_X7_told l D cI cJ cZ a_t a_t_text a_t_readPage a_t_page a_t_trial a_t_work a_t_book a_t_kept a_t_isKept a_t_seenWhat a_t_seenV a_t_seenIs a_t_label a_t_finds a_t_reason a_t_caseFirst a_t_brief a_t_printed a_t_renamed a_t_worth a_q1 H.size v_t_thrown v_t_textSize v_t_place v_t_doings v_t_seen v_t_seed v_t_printedSize N v_t_cases v_t_lastReason r_t_caseFirst g2 r_q1 p2 x3 ru11 ru12 ru13 ru14 v_t_lastReason_u14 hu14) (cwV 6 hts gX7_find_X7_told rfl rfl rfl hdX7_told ⟨Nat.le_of_ble_eq_true rfl, Nat.le_of_ble_eq_true rfl⟩) (pn_preV [0, 1, 2, 5] hP (hD.addr rfl) hK rfl rfl (q0 := 0) (ci := 6) rfl rfl) rfl rfl hl.1 rfl (lv_room (Nat.le_of_ble_eq_true rfl)) dX7_find_89 ⟨Nat.zero_le _, Nat.zero_le _⟩) hP (hD.addr rfl) hS hA rfl rfl rfl (fun H locs (hP : va_P D vwCl [(a_t, .inr (6, [.int v_t_thrown, .ref a_t_text, .int v_t_textSize, .int v_t_place, .ref a_t_readPage, .ref a_t_page, .ref a_t_trial, .ref a_t_work, .ref a_t_book, .int v_t_doings, .ref a_t_kept, .ref a_t_isKept, .int v_t_seen, .ref a_t_seenWhat, .ref a_t_seenV, .ref a_t_seenIs, .long v_t_seed, .ref a_t_label, .ref a_t_finds, .ref a_t_reason, .ref a_t_caseFirst, .int v_t_cases, .ref a_t_brief, .ref a_t_printed, .int v_t_printedSize, .ref a_t_renamed, .ref a_t_worth, .int v_t_lastReason_u14])), (a_t_caseFirst, .inl (cI, 32, .inl r_t_caseFirst)), (a_t_finds, .inl (cI, 32, .inl g2)), (a_t_label, .inl (cI, 32, .inl r_t_label)), (a_t_reason, .inl (cI, 32, .inl g4)), (a_q1, .inl (cI, 265, .inl r_q1))] H) _ hS => ?_)
            obtain ⟨hi16, g15, eg15, hf⟩ := pn_wrI_at hf
            refine pn_stI hx hb hK.1 hP (hD.addr rfl) hS 2 0 rfl rfl hi16 eg15 dX7_find_92 (fun H locs (hP : va_P D vwCl [(a_t, .inr (6, [.int v_t_thrown, .ref a_t_text, .int v_t_textSize, .int v_t_place, .ref a_t_readPage, .ref a_t_page, .ref a_t_trial, .ref a_t_work, .ref a_t_book, .int v_t_doings, .ref a_t_kept, .ref a_t_isKept, .int v_t_seen, .ref a_t_seenWhat, .ref a_t_seenV, .ref a_t_seenIs, .long v_t_seed, .ref a_t_label, .ref a_t_finds, .ref a_t_reason, .ref a_t_caseFirst, .int v_t_cases, .ref a_t_brief, .ref a_t_printed, .int v_t_printedSize, .ref a_t_renamed, .ref a_t_worth, .int v_t_lastReason_u14])), (a_t_caseFirst, .inl (cI, 32, .inl r_t_caseFirst)), (a_t_finds, .inl (cI, 32, .inl g15)), (a_t_label, .inl (cI, 32, .inl r_t_label)), (a_t_reason, .inl (cI, 32, .inl g4)), (a_q1, .inl (cI, 265, .inl r_q1))] H) _ hS => ?_)
            refine lv_aload_n hx hb dX7_find_93 rfl (lv_at hl 0 rfl) ?_
            refine va_get (D := D) (ci := 6) (v := .ref a_t_reason) (C := RX7) (T := TX7) (N := 28) hx hb hts hinX7 hown hK.1 hP 0 rfl rfl 19 (by decide) fl_50 (fun _ h9 => h9) rfl dX7_find_94 ?_
            refine lv_iload_n hx hb dX7_find_97 rfl (lv_at hl 3 rfl) ?_
            refine lv_aload_n hx hb dX7_find_98 rfl (lv_at hl 0 rfl) ?_
            refine va_get (D := D) (ci := 6) (v := .int v_t_lastReason_u14) (C := RX7) (T := TX7) (N := 28) hx hb hts hinX7 hown hK.1 hP 0 rfl rfl 27 (by decide) fl_159 (fun _ h9 => h9) rfl dX7_find_99 ?_
            obtain ⟨hi18, g17, eg17, hf⟩ := pn_wrI_at hf
            refine pn_stI hx hb hK.1 hP (hD.addr rfl) hS 4 0 rfl rfl hi18 eg17 dX7_find_102 (fun H locs (hP : va_P D vwCl [(a_t, .inr (6, [.int v_t_thrown, .ref a_t_text, .int v_t_textSize, .int v_t_place, .ref a_t_readPage, .ref a_t_page, .ref a_t_trial, .ref a_t_work, .ref a_t_book, .int v_t_doings, .ref a_t_kept, .ref a_t_isKept, .int v_t_seen, .ref a_t_seenWhat, .ref a_t_seenV, .ref a_t_seenIs, .long v_t_seed, .ref a_t_label, .ref a_t_finds, .ref a_t_reason, .ref a_t_caseFirst, .int v_t_cases, .ref a_t_brief, .ref a_t_printed, .int v_t_printedSize, .ref a_t_renamed, .ref a_t_worth, .int v_t_lastReason_u14])), (a_t_caseFirst, .inl (cI, 32, .inl r_t_caseFirst)), (a_t_finds, .inl (cI, 32, .inl g15)), (a_t_label, .inl (cI, 32, .inl r_t_label)), (a_t_reason, .inl (cI, 32, .inl g17)), (a_q1, .inl (cI, 265, .inl r_q1))] H) _ hS => ?_)
            obtain ⟨z19, ez19⟩ : ∃ y : Int32, y = x3 + (1) := ⟨_, rfl⟩
            have hf := pn_nm_at ez19 hf
            refine lv_iinc (v := z19) (lv' := [(3, .int z19), (0, .ref a_t), (1, .ref a_q1), (2, .int p2)]) hx hb dX7_find_103 hl (k := 3) rfl (by rw [ez19]; rfl) (by decide) rfl (fun ls hl => ?_)
            refine lv_goto (tgt := 8) hx hb dX7_find_106 (by decide) ?_
            exact ih z19 v_t_cases v_t_lastReason_u14 r_t_caseFirst g15 r_t_label g17 X H locs ls hf hP hS (lv_sub hl [1, 2, 3, 0] rfl) kx109
        · have hf := pn_ifn c7 hf
          refine lv_aload_n hx hb dX7_find_38 rfl (lv_at hl 0 rfl) ?_
          refine va_get (D := D) (ci := 6) (v := .ref a_t_finds) (C := RX7) (T := TX7) (N := 28) hx hb hts hinX7 hown hK.1 hP 0 rfl rfl 18 (by decide) fl_47 (fun _ h9 => h9) rfl dX7_find_39 ?_
          refine lv_iload_n hx hb dX7_find_42 rfl (lv_at hl 3 rfl) ?_
          refine lv_aload_n hx hb dX7_find_43 rfl (lv_at hl 0 rfl) ?_
          refine lv_iload_n hx hb dX7_find_44 rfl (lv_at hl 3 rfl) ?_
          obtain ⟨ru20, hu20, hf⟩ := pn_bd1_at hf
          refine pn_calli [0, 1, 3] (va_runV (As := [.int x3]) (rest := [.int x3, .ref a_t_finds]) ⟨hx, hb, hml, hown, hts⟩ (c_X7_caseOf l D cI cJ cZ a_t a_t_text a_t_readPage a_t_page a_t_trial a_t_work a_t_book a_t_kept a_t_isKept a_t_seenWhat a_t_seenV a_t_seenIs a_t_label a_t_finds a_t_reason a_t_caseFirst a_t_brief a_t_printed a_t_renamed a_t_worth H.size v_t_thrown v_t_textSize v_t_place v_t_doings v_t_seen v_t_seed v_t_printedSize v_t_lastReason N v_t_cases r_t_caseFirst r_t_label x3 ru20 hu20) (cwV 1 hts gX7_find_X7_caseOf rfl rfl rfl hdX7_caseOf ⟨Nat.le_of_ble_eq_true rfl, Nat.le_of_ble_eq_true rfl⟩) (pn_preV [0, 1, 3] hP (hD.addr rfl) hK rfl rfl (q0 := 0) (ci := 6) rfl rfl) rfl rfl hl.1 rfl (lv_room (Nat.le_of_ble_eq_true rfl)) dX7_find_45 ⟨Nat.zero_le _, Nat.zero_le _⟩) hP (hD.addr rfl) hS hA rfl rfl rfl (fun H locs (hP : va_P D vwCl [(a_t, .inr (6, [.int v_t_thrown, .ref a_t_text, .int v_t_textSize, .int v_t_place, .ref a_t_readPage, .ref a_t_page, .ref a_t_trial, .ref a_t_work, .ref a_t_book, .int v_t_doings, .ref a_t_kept, .ref a_t_isKept, .int v_t_seen, .ref a_t_seenWhat, .ref a_t_seenV, .ref a_t_seenIs, .long v_t_seed, .ref a_t_label, .ref a_t_finds, .ref a_t_reason, .ref a_t_caseFirst, .int v_t_cases, .ref a_t_brief, .ref a_t_printed, .int v_t_printedSize, .ref a_t_renamed, .ref a_t_worth, .int v_t_lastReason])), (a_t_caseFirst, .inl (cI, 32, .inl r_t_caseFirst)), (a_t_finds, .inl (cI, 32, .inl g2)), (a_t_label, .inl (cI, 32, .inl r_t_label)), (a_t_reason, .inl (cI, 32, .inl g4)), (a_q1, .inl (cI, 265, .inl r_q1))] H) _ hS => ?_)
          obtain ⟨hi22, g21, eg21, hf⟩ := pn_wrI_at hf
          refine pn_stI hx hb hK.1 hP (hD.addr rfl) hS 2 0 rfl rfl hi22 eg21 dX7_find_48 (fun H locs (hP : va_P D vwCl [(a_t, .inr (6, [.int v_t_thrown, .ref a_t_text, .int v_t_textSize, .int v_t_place, .ref a_t_readPage, .ref a_t_page, .ref a_t_trial, .ref a_t_work, .ref a_t_book, .int v_t_doings, .ref a_t_kept, .ref a_t_isKept, .int v_t_seen, .ref a_t_seenWhat, .ref a_t_seenV, .ref a_t_seenIs, .long v_t_seed, .ref a_t_label, .ref a_t_finds, .ref a_t_reason, .ref a_t_caseFirst, .int v_t_cases, .ref a_t_brief, .ref a_t_printed, .int v_t_printedSize, .ref a_t_renamed, .ref a_t_worth, .int v_t_lastReason])), (a_t_caseFirst, .inl (cI, 32, .inl r_t_caseFirst)), (a_t_finds, .inl (cI, 32, .inl g21)), (a_t_label, .inl (cI, 32, .inl r_t_label)), (a_t_reason, .inl (cI, 32, .inl g4)), (a_q1, .inl (cI, 265, .inl r_q1))] H) _ hS => ?_)
          refine lv_goto (tgt := 103) hx hb dX7_find_49 (by decide) ?_
          obtain ⟨z23, ez23⟩ : ∃ y : Int32, y = x3 + (1) := ⟨_, rfl⟩
          have hf := pn_nm_at ez23 hf
          refine lv_iinc (v := z23) (lv' := [(3, .int z23), (0, .ref a_t), (1, .ref a_q1), (2, .int p2)]) hx hb dX7_find_103 hl (k := 3) rfl (by rw [ez23]; rfl) (by decide) rfl (fun ls hl => ?_)
          refine lv_goto (tgt := 8) hx hb dX7_find_106 (by decide) ?_
          exact ih z23 v_t_cases v_t_lastReason r_t_caseFirst g21 r_t_label g4 X H locs ls hf hP hS (lv_sub hl [1, 2, 3, 0] rfl) kx109
  refine lv_aload_n hx hb dX7_find_0 rfl (lv_at hl 0 rfl) ?_
  refine lv_aload_n hx hb dX7_find_1 rfl (lv_at hl 1 rfl) ?_
  refine lv_iload_n hx hb dX7_find_2 rfl (lv_at hl 2 rfl) ?_
  obtain ⟨v_t_cases_u24, r_t_caseFirst_u24, r_t_label_u24, hu24, hf⟩ := pn_bd3_at hf
  refine pn_callv [0, 1, 3, 5] (va_runV (As := [.ref a_q1, .int p2]) (rest := []) ⟨hx, hb, hml, hown, hts⟩ (c_X7_layCases l D cI cJ cZ a_t a_t_text a_t_readPage a_t_page a_t_trial a_t_work a_t_book a_t_kept a_t_isKept a_t_seenWhat a_t_seenV a_t_seenIs a_t_label a_t_finds a_t_reason a_t_caseFirst a_t_brief a_t_printed a_t_renamed a_t_worth a_q1 H.size v_t_thrown v_t_textSize v_t_place v_t_doings v_t_seen v_t_seed v_t_printedSize v_t_lastReason N v_t_cases r_t_caseFirst r_t_label r_q1 p2 v_t_cases_u24 r_t_caseFirst_u24 r_t_label_u24 hu24) (cwV 2 hts gX7_find_X7_layCases rfl rfl rfl hdX7_layCases ⟨Nat.le_of_ble_eq_true rfl, Nat.le_of_ble_eq_true rfl⟩) (pn_preV [0, 1, 3, 5] hP (hD.addr rfl) hK rfl rfl (q0 := 0) (ci := 6) rfl rfl) rfl rfl hl.1 rfl (lv_room (Nat.le_of_ble_eq_true rfl)) dX7_find_3 ⟨Nat.zero_le _, Nat.zero_le _⟩) hP (hD.addr rfl) hS hA rfl rfl rfl (fun H locs (hP : va_P D vwCl [(a_t, .inr (6, [.int v_t_thrown, .ref a_t_text, .int v_t_textSize, .int v_t_place, .ref a_t_readPage, .ref a_t_page, .ref a_t_trial, .ref a_t_work, .ref a_t_book, .int v_t_doings, .ref a_t_kept, .ref a_t_isKept, .int v_t_seen, .ref a_t_seenWhat, .ref a_t_seenV, .ref a_t_seenIs, .long v_t_seed, .ref a_t_label, .ref a_t_finds, .ref a_t_reason, .ref a_t_caseFirst, .int v_t_cases_u24, .ref a_t_brief, .ref a_t_printed, .int v_t_printedSize, .ref a_t_renamed, .ref a_t_worth, .int v_t_lastReason])), (a_t_caseFirst, .inl (cI, 32, .inl r_t_caseFirst_u24)), (a_t_finds, .inl (cI, 32, .inl r_t_finds)), (a_t_label, .inl (cI, 32, .inl r_t_label_u24)), (a_t_reason, .inl (cI, 32, .inl r_t_reason)), (a_q1, .inl (cI, 265, .inl r_q1))] H) _ hS => ?_)
  refine lv_iconst (v := (0)) hx hb dX7_find_6 (by decide) ?_
  refine lv_istore_n (lv' := [(3, .int (0 : Int32)), (0, .ref a_t), (1, .ref a_q1), (2, .int p2)]) hx hb dX7_find_7 rfl hl (by decide) rfl (fun ls hl => ?_)
  obtain ⟨X8, hX8, hf⟩ := pn_bd1_at hf
  refine lp8 N (0 : Int32) v_t_cases_u24 v_t_lastReason r_t_caseFirst_u24 r_t_finds r_t_label_u24 r_t_reason X8 H locs ls hX8 hP hS (lv_sub hl [1, 2, 3, 0] rfl) ?_
  · intro v_t_lastReason_w25 r_t_finds_w25 r_t_reason_w25 H locs ls eX hP hS hl
    rw [eX] at hf
    have hf := pn_u3_at hf
    cases hf
    rw [hQ]
    exact pn_retv hx hb hr hlocks hP hS dX7_find_109
def f_X7_findAll (N : Nat) (v_t_cases : Int32) (v_t_lastReason : Int32) (r_t_caseFirst : Nat → Int32) (r_t_finds : Nat → Int32) (r_t_label : Nat → Int32) (r_t_reason : Nat → Int32) (r_q1 : Nat → Int32) : Option (Int32 × Int32 × (Nat → Int32) × (Nat → Int32) × (Nat → Int32) × (Nat → Int32)) :=
  pn_bd1 (f_X7_allNotes r_q1) fun ru1 =>
  pn_bd6 (f_X7_find N v_t_cases v_t_lastReason r_t_caseFirst r_t_finds r_t_label r_t_reason r_q1 ru1) fun v_t_cases_u2 v_t_lastReason_u2 r_t_caseFirst_u2 r_t_finds_u2 r_t_label_u2 r_t_reason_u2 =>
  some (v_t_cases_u2, v_t_lastReason_u2, r_t_caseFirst_u2, r_t_finds_u2, r_t_label_u2, r_t_reason_u2)
set_option maxHeartbeats 4000000 in
set_option maxRecDepth 100000 in
theorem c_X7_findAll (l : Launch) (D : va_G) (cI cJ cZ : ClassId) (a_t a_t_text a_t_readPage a_t_page a_t_trial a_t_work a_t_book a_t_kept a_t_isKept a_t_seenWhat a_t_seenV a_t_seenIs a_t_label a_t_finds a_t_reason a_t_caseFirst a_t_brief a_t_printed a_t_renamed a_t_worth a_q1 : Nat) (sz : Nat) (v_t_thrown : Int32) (v_t_textSize : Int32) (v_t_place : Int32) (v_t_doings : Int32) (v_t_seen : Int32) (v_t_seed : Int64) (v_t_printedSize : Int32) (N : Nat) (v_t_cases : Int32) (v_t_lastReason : Int32) (r_t_caseFirst : Nat → Int32) (r_t_finds : Nat → Int32) (r_t_label : Nat → Int32) (r_t_reason : Nat → Int32) (r_q1 : Nat → Int32) (o_t_cases : Int32) (o_t_lastReason : Int32) (o_t_caseFirst : Nat → Int32) (o_t_finds : Nat → Int32) (o_t_label : Nat → Int32) (o_t_reason : Nat → Int32) (hf : f_X7_findAll N v_t_cases v_t_lastReason r_t_caseFirst r_t_finds r_t_label r_t_reason r_q1 = some (o_t_cases, o_t_lastReason, o_t_caseFirst, o_t_finds, o_t_label, o_t_reason)) : Met l yX7_findAll wsX7_findAll { frames := 6, cells := 0, slots := 0, locals := 147 } (pn_Pc D cI cJ cZ [.ref a_t, .ref a_q1] [(a_t, .inr (6, [.int v_t_thrown, .ref a_t_text, .int v_t_textSize, .int v_t_place, .ref a_t_readPage, .ref a_t_page, .ref a_t_trial, .ref a_t_work, .ref a_t_book, .int v_t_doings, .ref a_t_kept, .ref a_t_isKept, .int v_t_seen, .ref a_t_seenWhat, .ref a_t_seenV, .ref a_t_seenIs, .long v_t_seed, .ref a_t_label, .ref a_t_finds, .ref a_t_reason, .ref a_t_caseFirst, .int v_t_cases, .ref a_t_brief, .ref a_t_printed, .int v_t_printedSize, .ref a_t_renamed, .ref a_t_worth, .int v_t_lastReason])), (a_t_caseFirst, .inl (cI, 32, .inl r_t_caseFirst)), (a_t_finds, .inl (cI, 32, .inl r_t_finds)), (a_t_label, .inl (cI, 32, .inl r_t_label)), (a_t_reason, .inl (cI, 32, .inl r_t_reason)), (a_q1, .inl (cI, 265, .inl r_q1))] sz) (pn_Qv D [(a_t, .inr (6, [.int v_t_thrown, .ref a_t_text, .int v_t_textSize, .int v_t_place, .ref a_t_readPage, .ref a_t_page, .ref a_t_trial, .ref a_t_work, .ref a_t_book, .int v_t_doings, .ref a_t_kept, .ref a_t_isKept, .int v_t_seen, .ref a_t_seenWhat, .ref a_t_seenV, .ref a_t_seenIs, .long v_t_seed, .ref a_t_label, .ref a_t_finds, .ref a_t_reason, .ref a_t_caseFirst, .int o_t_cases, .ref a_t_brief, .ref a_t_printed, .int v_t_printedSize, .ref a_t_renamed, .ref a_t_worth, .int o_t_lastReason])), (a_t_caseFirst, .inl (cI, 32, .inl o_t_caseFirst)), (a_t_finds, .inl (cI, 32, .inl o_t_finds)), (a_t_label, .inl (cI, 32, .inl o_t_label)), (a_t_reason, .inl (cI, 32, .inl o_t_reason)), (a_q1, .inl (cI, 265, .inl r_q1))] (va_A [(a_t, .inr (6, [.int v_t_thrown, .ref a_t_text, .int v_t_textSize, .int v_t_place, .ref a_t_readPage, .ref a_t_page, .ref a_t_trial, .ref a_t_work, .ref a_t_book, .int v_t_doings, .ref a_t_kept, .ref a_t_isKept, .int v_t_seen, .ref a_t_seenWhat, .ref a_t_seenV, .ref a_t_seenIs, .long v_t_seed, .ref a_t_label, .ref a_t_finds, .ref a_t_reason, .ref a_t_caseFirst, .int v_t_cases, .ref a_t_brief, .ref a_t_printed, .int v_t_printedSize, .ref a_t_renamed, .ref a_t_worth, .int v_t_lastReason])), (a_t_caseFirst, .inl (cI, 32, .inl r_t_caseFirst)), (a_t_finds, .inl (cI, 32, .inl r_t_finds)), (a_t_label, .inl (cI, 32, .inl r_t_label)), (a_t_reason, .inl (cI, 32, .inl r_t_reason)), (a_q1, .inl (cI, 265, .inl r_q1))] sz)) 0 0 (va_A [(a_t, .inr (6, [.int v_t_thrown, .ref a_t_text, .int v_t_textSize, .int v_t_place, .ref a_t_readPage, .ref a_t_page, .ref a_t_trial, .ref a_t_work, .ref a_t_book, .int v_t_doings, .ref a_t_kept, .ref a_t_isKept, .int v_t_seen, .ref a_t_seenWhat, .ref a_t_seenV, .ref a_t_seenIs, .long v_t_seed, .ref a_t_label, .ref a_t_finds, .ref a_t_reason, .ref a_t_caseFirst, .int v_t_cases, .ref a_t_brief, .ref a_t_printed, .int v_t_printedSize, .ref a_t_renamed, .ref a_t_worth, .int v_t_lastReason])), (a_t_caseFirst, .inl (cI, 32, .inl r_t_caseFirst)), (a_t_finds, .inl (cI, 32, .inl r_t_finds)), (a_t_label, .inl (cI, 32, .inl r_t_label)), (a_t_reason, .inl (cI, 32, .inl r_t_reason)), (a_q1, .inl (cI, 265, .inl r_q1))] sz) := by
  refine pn_entry (cc := cX7_findAll) (maxL := 2) (ret := none) (Qf := pn_Qv D [(a_t, .inr (6, [.int v_t_thrown, .ref a_t_text, .int v_t_textSize, .int v_t_place, .ref a_t_readPage, .ref a_t_page, .ref a_t_trial, .ref a_t_work, .ref a_t_book, .int v_t_doings, .ref a_t_kept, .ref a_t_isKept, .int v_t_seen, .ref a_t_seenWhat, .ref a_t_seenV, .ref a_t_seenIs, .long v_t_seed, .ref a_t_label, .ref a_t_finds, .ref a_t_reason, .ref a_t_caseFirst, .int o_t_cases, .ref a_t_brief, .ref a_t_printed, .int v_t_printedSize, .ref a_t_renamed, .ref a_t_worth, .int o_t_lastReason])), (a_t_caseFirst, .inl (cI, 32, .inl o_t_caseFirst)), (a_t_finds, .inl (cI, 32, .inl o_t_finds)), (a_t_label, .inl (cI, 32, .inl o_t_label)), (a_t_reason, .inl (cI, 32, .inl o_t_reason)), (a_q1, .inl (cI, 265, .inl r_q1))]) (by decide) rfl (Nat.le_of_ble_eq_true rfl) ?_
  intro p e s m args below meth c A ls H locs Qm hQ hx hb hr hlocks hml hown hts hK hP hD hA hS hl
  have hl : lv_has ls 2 [(0, .ref a_t), (1, .ref a_q1)] := hl
  rw [f_X7_findAll] at hf
  refine lv_aload_n hx hb dX7_findAll_0 rfl (lv_at hl 0 rfl) ?_
  refine lv_aload_n hx hb dX7_findAll_1 rfl (lv_at hl 1 rfl) ?_
  refine lv_aload_n hx hb dX7_findAll_2 rfl (lv_at hl 1 rfl) ?_
  obtain ⟨ru1, hu1, hf⟩ := pn_bd1_at hf
  refine pn_calli [5] (va_runS (As := [.ref a_q1]) (rest := [.ref a_q1, .ref a_t]) ⟨hx, hb, hml, hown, hts⟩ (c_X7_allNotes l D cI cJ cZ a_q1 H.size r_q1 ru1 hu1) (va_cwS 1 hts gX7_findAll_X7_allNotes rfl rfl rfl hdX7_allNotes ⟨Nat.le_of_ble_eq_true rfl, Nat.le_of_ble_eq_true rfl⟩) (pn_preS [5] hP (hD.addr rfl) hK rfl rfl) rfl rfl hl.1 rfl (lv_room (Nat.le_of_ble_eq_true rfl)) dX7_findAll_3 ⟨Nat.zero_le _, Nat.zero_le _⟩) hP (hD.addr rfl) hS hA rfl rfl rfl (fun H locs (hP : va_P D vwCl [(a_t, .inr (6, [.int v_t_thrown, .ref a_t_text, .int v_t_textSize, .int v_t_place, .ref a_t_readPage, .ref a_t_page, .ref a_t_trial, .ref a_t_work, .ref a_t_book, .int v_t_doings, .ref a_t_kept, .ref a_t_isKept, .int v_t_seen, .ref a_t_seenWhat, .ref a_t_seenV, .ref a_t_seenIs, .long v_t_seed, .ref a_t_label, .ref a_t_finds, .ref a_t_reason, .ref a_t_caseFirst, .int v_t_cases, .ref a_t_brief, .ref a_t_printed, .int v_t_printedSize, .ref a_t_renamed, .ref a_t_worth, .int v_t_lastReason])), (a_t_caseFirst, .inl (cI, 32, .inl r_t_caseFirst)), (a_t_finds, .inl (cI, 32, .inl r_t_finds)), (a_t_label, .inl (cI, 32, .inl r_t_label)), (a_t_reason, .inl (cI, 32, .inl r_t_reason)), (a_q1, .inl (cI, 265, .inl r_q1))] H) _ hS => ?_)
  obtain ⟨v_t_cases_u2, v_t_lastReason_u2, r_t_caseFirst_u2, r_t_finds_u2, r_t_label_u2, r_t_reason_u2, hu2, hf⟩ := pn_bd6_at hf
  refine pn_callv [0, 1, 2, 3, 4, 5] (va_runV (As := [.ref a_q1, .int ru1]) (rest := []) ⟨hx, hb, hml, hown, hts⟩ (c_X7_find l D cI cJ cZ a_t a_t_text a_t_readPage a_t_page a_t_trial a_t_work a_t_book a_t_kept a_t_isKept a_t_seenWhat a_t_seenV a_t_seenIs a_t_label a_t_finds a_t_reason a_t_caseFirst a_t_brief a_t_printed a_t_renamed a_t_worth a_q1 H.size v_t_thrown v_t_textSize v_t_place v_t_doings v_t_seen v_t_seed v_t_printedSize N v_t_cases v_t_lastReason r_t_caseFirst r_t_finds r_t_label r_t_reason r_q1 ru1 v_t_cases_u2 v_t_lastReason_u2 r_t_caseFirst_u2 r_t_finds_u2 r_t_label_u2 r_t_reason_u2 hu2) (cwV 2 hts gX7_findAll_X7_find rfl rfl rfl hdX7_find ⟨Nat.le_of_ble_eq_true rfl, Nat.le_of_ble_eq_true rfl⟩) (pn_preV [0, 1, 2, 3, 4, 5] hP (hD.addr rfl) hK rfl rfl (q0 := 0) (ci := 6) rfl rfl) rfl rfl hl.1 rfl (lv_room (Nat.le_of_ble_eq_true rfl)) dX7_findAll_6 ⟨Nat.zero_le _, Nat.zero_le _⟩) hP (hD.addr rfl) hS hA rfl rfl rfl (fun H locs (hP : va_P D vwCl [(a_t, .inr (6, [.int v_t_thrown, .ref a_t_text, .int v_t_textSize, .int v_t_place, .ref a_t_readPage, .ref a_t_page, .ref a_t_trial, .ref a_t_work, .ref a_t_book, .int v_t_doings, .ref a_t_kept, .ref a_t_isKept, .int v_t_seen, .ref a_t_seenWhat, .ref a_t_seenV, .ref a_t_seenIs, .long v_t_seed, .ref a_t_label, .ref a_t_finds, .ref a_t_reason, .ref a_t_caseFirst, .int v_t_cases_u2, .ref a_t_brief, .ref a_t_printed, .int v_t_printedSize, .ref a_t_renamed, .ref a_t_worth, .int v_t_lastReason_u2])), (a_t_caseFirst, .inl (cI, 32, .inl r_t_caseFirst_u2)), (a_t_finds, .inl (cI, 32, .inl r_t_finds_u2)), (a_t_label, .inl (cI, 32, .inl r_t_label_u2)), (a_t_reason, .inl (cI, 32, .inl r_t_reason_u2)), (a_q1, .inl (cI, 265, .inl r_q1))] H) _ hS => ?_)
  cases hf
  rw [hQ]
  exact pn_retv hx hb hr hlocks hP hS dX7_findAll_9
def lp_X7_manyRefs_4 (r_q0 : Nat → Int32) (p1 : Int32) : Nat → Int32 → Int32 → Option (Int32)
  | 0, _, _ => none
  | n + 1, x2, x3 =>
    if (32 : Int32) ≤ x3 then
  some x2
  else
  pn_bd1 (f_X7_isLeft r_q0 p1 x3) fun ru2 =>
  if ru2 = 0 then
  pn_nm (x2 + (0 : Int32)) fun z4 =>
  pn_nm (x3 + (1 : Int32)) fun z5 =>
  lp_X7_manyRefs_4 r_q0 p1 n z4 z5
  else
  pn_nm (x2 + (1 : Int32)) fun z6 =>
  pn_nm (x3 + (1 : Int32)) fun z7 =>
  lp_X7_manyRefs_4 r_q0 p1 n z6 z7
def f_X7_manyRefs (N : Nat) (r_q0 : Nat → Int32) (p1 : Int32) : Option (Int32) :=
  pn_bd1 (lp_X7_manyRefs_4 r_q0 p1 N (0 : Int32) (0 : Int32)) (fun X4 => (pn_u1 fun x2_w8 => some x2_w8) X4)
set_option maxHeartbeats 4000000 in
set_option maxRecDepth 100000 in
theorem c_X7_manyRefs (l : Launch) (D : va_G) (cI cJ cZ : ClassId) (a_q0 : Nat) (sz : Nat) (N : Nat) (r_q0 : Nat → Int32) (p1 : Int32) (rR : Int32) (hf : f_X7_manyRefs N r_q0 p1 = some rR) : Met l yX7_manyRefs wsX7_manyRefs { frames := 3, cells := 0, slots := 0, locals := 69 } (pn_Pc D cI cJ cZ [.ref a_q0, .int p1] [(a_q0, .inl (cI, 265, .inl r_q0))] sz) (pn_Qi D rR [(a_q0, .inl (cI, 265, .inl r_q0))] (va_A [(a_q0, .inl (cI, 265, .inl r_q0))] sz)) 0 0 (va_A [(a_q0, .inl (cI, 265, .inl r_q0))] sz) := by
  refine pn_entry (cc := cX7_manyRefs) (maxL := 4) (ret := (some .int)) (Qf := pn_Qi D rR [(a_q0, .inl (cI, 265, .inl r_q0))]) (by decide) rfl (Nat.le_of_ble_eq_true rfl) ?_
  intro p e s m args below meth c A ls H locs Qm hQ hx hb hr hlocks hml hown hts hK hP hD hA hS hl
  have hl : lv_has ls 4 [(0, .ref a_q0), (1, .int p1)] := hl
  rw [f_X7_manyRefs] at hf
  have lp4 : ∀ (n : Nat) (x2 : Int32) (x3 : Int32) (X : Int32) (H : Heap) (locs : List Loc) (ls : Array Slot), lp_X7_manyRefs_4 r_q0 p1 n x2 x3 = some X → va_P D vwCl [(a_q0, .inl (cI, 265, .inl r_q0))] H → va_S A s.heap H locs → lv_has ls 4 [(0, .ref a_q0), (1, .int p1), (2, .int x2), (3, .int x3)] → (∀ (y2 : Int32)  (H : Heap) (locs : List Loc) (ls : Array Slot), X = y2 → va_P D vwCl [(a_q0, .inl (cI, 265, .inl r_q0))] H → va_S A s.heap H locs → lv_has ls 4 [(2, .int y2)] → W p l e { frames := 3, cells := 0, slots := 0, locals := 69 } s m args below meth c H locs 0 0 Qm (F0 m 33 ls [])) → W p l e { frames := 3, cells := 0, slots := 0, locals := 69 } s m args below meth c H locs 0 0 Qm (F0 m 4 ls []) := by
    intro n
    induction n with
    | zero => intro x2 x3 X H locs ls hf; cases hf
    | succ n ih =>
      intro x2 x3 X H locs ls hf hP hS hl kx33
      rw [lp_X7_manyRefs_4] at hf
      refine lv_iload_n hx hb dX7_manyRefs_4 rfl (lv_at hl 3 rfl) ?_
      refine lv_bipush (v := (32)) hx hb dX7_manyRefs_5 (by decide) ?_
      refine lv_icmp_ge (tgt := 33) hx hb dX7_manyRefs_7 (by decide) (fun c1 => ?_) (fun c1 => ?_)
      · have hf := pn_ifp c1 hf
        exact kx33 x2 H locs ls (Option.some.inj hf).symm hP hS (lv_sub hl [2] rfl)
      · have hf := pn_ifn c1 hf
        refine lv_iload_n hx hb dX7_manyRefs_10 rfl (lv_at hl 2 rfl) ?_
        refine lv_aload_n hx hb dX7_manyRefs_11 rfl (lv_at hl 0 rfl) ?_
        refine lv_iload_n hx hb dX7_manyRefs_12 rfl (lv_at hl 1 rfl) ?_
        refine lv_iload_n hx hb dX7_manyRefs_13 rfl (lv_at hl 3 rfl) ?_
        obtain ⟨ru2, hu2, hf⟩ := pn_bd1_at hf
        refine pn_calli [0] (va_runS (As := [.ref a_q0, .int p1, .int x3]) (rest := [.int x2]) ⟨hx, hb, hml, hown, hts⟩ (c_X7_isLeft l D cI cJ cZ a_q0 H.size r_q0 p1 x3 ru2 hu2) (va_cwS 3 hts gX7_manyRefs_X7_isLeft rfl rfl rfl hdX7_isLeft ⟨Nat.le_of_ble_eq_true rfl, Nat.le_of_ble_eq_true rfl⟩) (pn_preS [0] hP (hD.addr rfl) hK rfl rfl) rfl rfl hl.1 rfl (lv_room (Nat.le_of_ble_eq_true rfl)) dX7_manyRefs_14 ⟨Nat.zero_le _, Nat.zero_le _⟩) hP (hD.addr rfl) hS hA rfl rfl rfl (fun H locs (hP : va_P D vwCl [(a_q0, .inl (cI, 265, .inl r_q0))] H) _ hS => ?_)
        refine lv_if_eq (tgt := 24) hx hb dX7_manyRefs_17 (by decide) (fun c3 => ?_) (fun c3 => ?_)
        · have hf := pn_ifp c3 hf
          refine lv_iconst (v := (0)) hx hb dX7_manyRefs_24 (by decide) ?_
          refine lv_iadd hx hb dX7_manyRefs_25 ?_
          refine lv_topi (fun z4 ez4 => ?_)
          have hf := pn_nm_at ez4 hf
          refine lv_istore_n (lv' := [(2, .int z4), (0, .ref a_q0), (1, .int p1), (3, .int x3)]) hx hb dX7_manyRefs_26 rfl hl (by decide) rfl (fun ls hl => ?_)
          obtain ⟨z5, ez5⟩ : ∃ y : Int32, y = x3 + (1) := ⟨_, rfl⟩
          have hf := pn_nm_at ez5 hf
          refine lv_iinc (v := z5) (lv' := [(3, .int z5), (2, .int z4), (0, .ref a_q0), (1, .int p1)]) hx hb dX7_manyRefs_27 hl (k := 3) rfl (by rw [ez5]; rfl) (by decide) rfl (fun ls hl => ?_)
          refine lv_goto (tgt := 4) hx hb dX7_manyRefs_30 (by decide) ?_
          exact ih z4 z5 X H locs ls hf hP hS (lv_sub hl [2, 3, 1, 0] rfl) kx33
        · have hf := pn_ifn c3 hf
          refine lv_iconst (v := (1)) hx hb dX7_manyRefs_20 (by decide) ?_
          refine lv_goto (tgt := 25) hx hb dX7_manyRefs_21 (by decide) ?_
          refine lv_iadd hx hb dX7_manyRefs_25 ?_
          refine lv_topi (fun z6 ez6 => ?_)
          have hf := pn_nm_at ez6 hf
          refine lv_istore_n (lv' := [(2, .int z6), (0, .ref a_q0), (1, .int p1), (3, .int x3)]) hx hb dX7_manyRefs_26 rfl hl (by decide) rfl (fun ls hl => ?_)
          obtain ⟨z7, ez7⟩ : ∃ y : Int32, y = x3 + (1) := ⟨_, rfl⟩
          have hf := pn_nm_at ez7 hf
          refine lv_iinc (v := z7) (lv' := [(3, .int z7), (2, .int z6), (0, .ref a_q0), (1, .int p1)]) hx hb dX7_manyRefs_27 hl (k := 3) rfl (by rw [ez7]; rfl) (by decide) rfl (fun ls hl => ?_)
          refine lv_goto (tgt := 4) hx hb dX7_manyRefs_30 (by decide) ?_
          exact ih z6 z7 X H locs ls hf hP hS (lv_sub hl [2, 3, 1, 0] rfl) kx33
  refine lv_iconst (v := (0)) hx hb dX7_manyRefs_0 (by decide) ?_
  refine lv_istore_n (lv' := [(2, .int (0 : Int32)), (0, .ref a_q0), (1, .int p1)]) hx hb dX7_manyRefs_1 rfl hl (by decide) rfl (fun ls hl => ?_)
  refine lv_iconst (v := (0)) hx hb dX7_manyRefs_2 (by decide) ?_
  refine lv_istore_n (lv' := [(3, .int (0 : Int32)), (2, .int (0 : Int32)), (0, .ref a_q0), (1, .int p1)]) hx hb dX7_manyRefs_3 rfl hl (by decide) rfl (fun ls hl => ?_)
  obtain ⟨X4, hX4, hf⟩ := pn_bd1_at hf
  refine lp4 N (0 : Int32) (0 : Int32) X4 H locs ls hX4 hP hS (lv_sub hl [2, 3, 1, 0] rfl) ?_
  · intro x2_w8 H locs ls eX hP hS hl
    rw [eX] at hf
    have hf := pn_u1_at hf
    refine lv_iload_n hx hb dX7_manyRefs_33 rfl (lv_at hl 0 rfl) ?_
    cases hf
    rw [hQ]
    exact pn_reti hx hb hr hlocks hP hS rfl dX7_manyRefs_34
def lp_X7_manyFound_4 (r_t_finds : Nat → Int32) : Nat → Int32 → Int32 → Option (Int32)
  | 0, _, _ => none
  | n + 1, x1, x2 =>
    if (32 : Int32) ≤ x2 then
  some x1
  else
  pn_rd 32 r_t_finds x2 fun w2 =>
  if ¬ w2 = (-9 : Int32) then
  pn_nm (x1 + (1 : Int32)) fun z5 =>
  pn_nm (x2 + (1 : Int32)) fun z6 =>
  lp_X7_manyFound_4 r_t_finds n z5 z6
  else
  pn_nm (x1 + (0 : Int32)) fun z7 =>
  pn_nm (x2 + (1 : Int32)) fun z8 =>
  lp_X7_manyFound_4 r_t_finds n z7 z8
def f_X7_manyFound (N : Nat) (r_t_finds : Nat → Int32) : Option (Int32) :=
  pn_bd1 (lp_X7_manyFound_4 r_t_finds N (0 : Int32) (0 : Int32)) (fun X4 => (pn_u1 fun x1_w9 => some x1_w9) X4)
set_option maxHeartbeats 4000000 in
set_option maxRecDepth 100000 in
theorem c_X7_manyFound (l : Launch) (D : va_G) (cI cJ cZ : ClassId) (a_t a_t_text a_t_readPage a_t_page a_t_trial a_t_work a_t_book a_t_kept a_t_isKept a_t_seenWhat a_t_seenV a_t_seenIs a_t_label a_t_finds a_t_reason a_t_caseFirst a_t_brief a_t_printed a_t_renamed a_t_worth : Nat) (sz : Nat) (v_t_thrown : Int32) (v_t_textSize : Int32) (v_t_place : Int32) (v_t_doings : Int32) (v_t_seen : Int32) (v_t_seed : Int64) (v_t_cases : Int32) (v_t_printedSize : Int32) (v_t_lastReason : Int32) (N : Nat) (r_t_finds : Nat → Int32) (rR : Int32) (hf : f_X7_manyFound N r_t_finds = some rR) : Met l yX7_manyFound wsX7_manyFound { frames := 0, cells := 0, slots := 0, locals := 0 } (pn_Pc D cI cJ cZ [.ref a_t] [(a_t, .inr (6, [.int v_t_thrown, .ref a_t_text, .int v_t_textSize, .int v_t_place, .ref a_t_readPage, .ref a_t_page, .ref a_t_trial, .ref a_t_work, .ref a_t_book, .int v_t_doings, .ref a_t_kept, .ref a_t_isKept, .int v_t_seen, .ref a_t_seenWhat, .ref a_t_seenV, .ref a_t_seenIs, .long v_t_seed, .ref a_t_label, .ref a_t_finds, .ref a_t_reason, .ref a_t_caseFirst, .int v_t_cases, .ref a_t_brief, .ref a_t_printed, .int v_t_printedSize, .ref a_t_renamed, .ref a_t_worth, .int v_t_lastReason])), (a_t_finds, .inl (cI, 32, .inl r_t_finds))] sz) (pn_Qi D rR [(a_t, .inr (6, [.int v_t_thrown, .ref a_t_text, .int v_t_textSize, .int v_t_place, .ref a_t_readPage, .ref a_t_page, .ref a_t_trial, .ref a_t_work, .ref a_t_book, .int v_t_doings, .ref a_t_kept, .ref a_t_isKept, .int v_t_seen, .ref a_t_seenWhat, .ref a_t_seenV, .ref a_t_seenIs, .long v_t_seed, .ref a_t_label, .ref a_t_finds, .ref a_t_reason, .ref a_t_caseFirst, .int v_t_cases, .ref a_t_brief, .ref a_t_printed, .int v_t_printedSize, .ref a_t_renamed, .ref a_t_worth, .int v_t_lastReason])), (a_t_finds, .inl (cI, 32, .inl r_t_finds))] (va_A [(a_t, .inr (6, [.int v_t_thrown, .ref a_t_text, .int v_t_textSize, .int v_t_place, .ref a_t_readPage, .ref a_t_page, .ref a_t_trial, .ref a_t_work, .ref a_t_book, .int v_t_doings, .ref a_t_kept, .ref a_t_isKept, .int v_t_seen, .ref a_t_seenWhat, .ref a_t_seenV, .ref a_t_seenIs, .long v_t_seed, .ref a_t_label, .ref a_t_finds, .ref a_t_reason, .ref a_t_caseFirst, .int v_t_cases, .ref a_t_brief, .ref a_t_printed, .int v_t_printedSize, .ref a_t_renamed, .ref a_t_worth, .int v_t_lastReason])), (a_t_finds, .inl (cI, 32, .inl r_t_finds))] sz)) 0 0 (va_A [(a_t, .inr (6, [.int v_t_thrown, .ref a_t_text, .int v_t_textSize, .int v_t_place, .ref a_t_readPage, .ref a_t_page, .ref a_t_trial, .ref a_t_work, .ref a_t_book, .int v_t_doings, .ref a_t_kept, .ref a_t_isKept, .int v_t_seen, .ref a_t_seenWhat, .ref a_t_seenV, .ref a_t_seenIs, .long v_t_seed, .ref a_t_label, .ref a_t_finds, .ref a_t_reason, .ref a_t_caseFirst, .int v_t_cases, .ref a_t_brief, .ref a_t_printed, .int v_t_printedSize, .ref a_t_renamed, .ref a_t_worth, .int v_t_lastReason])), (a_t_finds, .inl (cI, 32, .inl r_t_finds))] sz) := by
  refine pn_entry (cc := cX7_manyFound) (maxL := 3) (ret := (some .int)) (Qf := pn_Qi D rR [(a_t, .inr (6, [.int v_t_thrown, .ref a_t_text, .int v_t_textSize, .int v_t_place, .ref a_t_readPage, .ref a_t_page, .ref a_t_trial, .ref a_t_work, .ref a_t_book, .int v_t_doings, .ref a_t_kept, .ref a_t_isKept, .int v_t_seen, .ref a_t_seenWhat, .ref a_t_seenV, .ref a_t_seenIs, .long v_t_seed, .ref a_t_label, .ref a_t_finds, .ref a_t_reason, .ref a_t_caseFirst, .int v_t_cases, .ref a_t_brief, .ref a_t_printed, .int v_t_printedSize, .ref a_t_renamed, .ref a_t_worth, .int v_t_lastReason])), (a_t_finds, .inl (cI, 32, .inl r_t_finds))]) (by decide) rfl (Nat.le_of_ble_eq_true rfl) ?_
  intro p e s m args below meth c A ls H locs Qm hQ hx hb hr hlocks hml hown hts hK hP hD hA hS hl
  have hl : lv_has ls 3 [(0, .ref a_t)] := hl
  have hinX7 : ∀ w ∈ wsX70, w ∈ wsX7_manyFound := by decide +kernel
  have fl_47 := hts (.fieldLink RX7 47 "PointingNotesModel" "finds" "[I") (by decide +kernel)
  rw [f_X7_manyFound] at hf
  have lp4 : ∀ (n : Nat) (x1 : Int32) (x2 : Int32) (X : Int32) (H : Heap) (locs : List Loc) (ls : Array Slot), lp_X7_manyFound_4 r_t_finds n x1 x2 = some X → va_P D vwCl [(a_t, .inr (6, [.int v_t_thrown, .ref a_t_text, .int v_t_textSize, .int v_t_place, .ref a_t_readPage, .ref a_t_page, .ref a_t_trial, .ref a_t_work, .ref a_t_book, .int v_t_doings, .ref a_t_kept, .ref a_t_isKept, .int v_t_seen, .ref a_t_seenWhat, .ref a_t_seenV, .ref a_t_seenIs, .long v_t_seed, .ref a_t_label, .ref a_t_finds, .ref a_t_reason, .ref a_t_caseFirst, .int v_t_cases, .ref a_t_brief, .ref a_t_printed, .int v_t_printedSize, .ref a_t_renamed, .ref a_t_worth, .int v_t_lastReason])), (a_t_finds, .inl (cI, 32, .inl r_t_finds))] H → va_S A s.heap H locs → lv_has ls 3 [(0, .ref a_t), (1, .int x1), (2, .int x2)] → (∀ (y1 : Int32)  (H : Heap) (locs : List Loc) (ls : Array Slot), X = y1 → va_P D vwCl [(a_t, .inr (6, [.int v_t_thrown, .ref a_t_text, .int v_t_textSize, .int v_t_place, .ref a_t_readPage, .ref a_t_page, .ref a_t_trial, .ref a_t_work, .ref a_t_book, .int v_t_doings, .ref a_t_kept, .ref a_t_isKept, .int v_t_seen, .ref a_t_seenWhat, .ref a_t_seenV, .ref a_t_seenIs, .long v_t_seed, .ref a_t_label, .ref a_t_finds, .ref a_t_reason, .ref a_t_caseFirst, .int v_t_cases, .ref a_t_brief, .ref a_t_printed, .int v_t_printedSize, .ref a_t_renamed, .ref a_t_worth, .int v_t_lastReason])), (a_t_finds, .inl (cI, 32, .inl r_t_finds))] H → va_S A s.heap H locs → lv_has ls 3 [(1, .int y1)] → W p l e { frames := 0, cells := 0, slots := 0, locals := 0 } s m args below meth c H locs 0 0 Qm (F0 m 35 ls [])) → W p l e { frames := 0, cells := 0, slots := 0, locals := 0 } s m args below meth c H locs 0 0 Qm (F0 m 4 ls []) := by
    intro n
    induction n with
    | zero => intro x1 x2 X H locs ls hf; cases hf
    | succ n ih =>
      intro x1 x2 X H locs ls hf hP hS hl kx35
      rw [lp_X7_manyFound_4] at hf
      refine lv_iload_n hx hb dX7_manyFound_4 rfl (lv_at hl 2 rfl) ?_
      refine lv_bipush (v := (32)) hx hb dX7_manyFound_5 (by decide) ?_
      refine lv_icmp_ge (tgt := 35) hx hb dX7_manyFound_7 (by decide) (fun c1 => ?_) (fun c1 => ?_)
      · have hf := pn_ifp c1 hf
        exact kx35 x1 H locs ls (Option.some.inj hf).symm hP hS (lv_sub hl [1] rfl)
      · have hf := pn_ifn c1 hf
        refine lv_iload_n hx hb dX7_manyFound_10 rfl (lv_at hl 1 rfl) ?_
        refine lv_aload_n hx hb dX7_manyFound_11 rfl (lv_at hl 0 rfl) ?_
        refine va_get (D := D) (ci := 6) (v := .ref a_t_finds) (C := RX7) (T := TX7) (N := 28) hx hb hts hinX7 hown hK.1 hP 0 rfl rfl 18 (by decide) fl_47 (fun _ h9 => h9) rfl dX7_manyFound_12 ?_
        refine lv_iload_n hx hb dX7_manyFound_15 rfl (lv_at hl 2 rfl) ?_
        obtain ⟨hi3, w2, ew2, hf⟩ := pn_rd_at hf
        refine pn_ldI hx hb hK.1 hP 1 0 rfl rfl hi3 ew2 dX7_manyFound_16 ?_
        refine lv_bipush (v := (-9)) hx hb dX7_manyFound_17 (by decide) ?_
        refine lv_icmp_ne (tgt := 26) hx hb dX7_manyFound_19 (by decide) (fun c4 => ?_) (fun c4 => ?_)
        · have hf := pn_ifp c4 hf
          refine lv_iconst (v := (1)) hx hb dX7_manyFound_26 (by decide) ?_
          refine lv_iadd hx hb dX7_manyFound_27 ?_
          refine lv_topi (fun z5 ez5 => ?_)
          have hf := pn_nm_at ez5 hf
          refine lv_istore_n (lv' := [(1, .int z5), (0, .ref a_t), (2, .int x2)]) hx hb dX7_manyFound_28 rfl hl (by decide) rfl (fun ls hl => ?_)
          obtain ⟨z6, ez6⟩ : ∃ y : Int32, y = x2 + (1) := ⟨_, rfl⟩
          have hf := pn_nm_at ez6 hf
          refine lv_iinc (v := z6) (lv' := [(2, .int z6), (1, .int z5), (0, .ref a_t)]) hx hb dX7_manyFound_29 hl (k := 2) rfl (by rw [ez6]; rfl) (by decide) rfl (fun ls hl => ?_)
          refine lv_goto (tgt := 4) hx hb dX7_manyFound_32 (by decide) ?_
          exact ih z5 z6 X H locs ls hf hP hS (lv_sub hl [2, 1, 0] rfl) kx35
        · have hf := pn_ifq c4 hf
          refine lv_iconst (v := (0)) hx hb dX7_manyFound_22 (by decide) ?_
          refine lv_goto (tgt := 27) hx hb dX7_manyFound_23 (by decide) ?_
          refine lv_iadd hx hb dX7_manyFound_27 ?_
          refine lv_topi (fun z7 ez7 => ?_)
          have hf := pn_nm_at ez7 hf
          refine lv_istore_n (lv' := [(1, .int z7), (0, .ref a_t), (2, .int x2)]) hx hb dX7_manyFound_28 rfl hl (by decide) rfl (fun ls hl => ?_)
          obtain ⟨z8, ez8⟩ : ∃ y : Int32, y = x2 + (1) := ⟨_, rfl⟩
          have hf := pn_nm_at ez8 hf
          refine lv_iinc (v := z8) (lv' := [(2, .int z8), (1, .int z7), (0, .ref a_t)]) hx hb dX7_manyFound_29 hl (k := 2) rfl (by rw [ez8]; rfl) (by decide) rfl (fun ls hl => ?_)
          refine lv_goto (tgt := 4) hx hb dX7_manyFound_32 (by decide) ?_
          exact ih z7 z8 X H locs ls hf hP hS (lv_sub hl [2, 1, 0] rfl) kx35
  refine lv_iconst (v := (0)) hx hb dX7_manyFound_0 (by decide) ?_
  refine lv_istore_n (lv' := [(1, .int (0 : Int32)), (0, .ref a_t)]) hx hb dX7_manyFound_1 rfl hl (by decide) rfl (fun ls hl => ?_)
  refine lv_iconst (v := (0)) hx hb dX7_manyFound_2 (by decide) ?_
  refine lv_istore_n (lv' := [(2, .int (0 : Int32)), (1, .int (0 : Int32)), (0, .ref a_t)]) hx hb dX7_manyFound_3 rfl hl (by decide) rfl (fun ls hl => ?_)
  obtain ⟨X4, hX4, hf⟩ := pn_bd1_at hf
  refine lp4 N (0 : Int32) (0 : Int32) X4 H locs ls hX4 hP hS (lv_sub hl [2, 1, 0] rfl) ?_
  · intro x1_w9 H locs ls eX hP hS hl
    rw [eX] at hf
    have hf := pn_u1_at hf
    refine lv_iload_n hx hb dX7_manyFound_35 rfl (lv_at hl 0 rfl) ?_
    cases hf
    rw [hQ]
    exact pn_reti hx hb hr hlocks hP hS rfl dX7_manyFound_36
def f_X7_dead (N : Nat) (v_t_cases : Int32) (v_t_lastReason : Int32) (r_t_caseFirst : Nat → Int32) (r_t_finds : Nat → Int32) (r_t_label : Nat → Int32) (r_t_reason : Nat → Int32) (r_q1 : Nat → Int32) : Option (Int32 × Int32 × Int32 × (Nat → Int32) × (Nat → Int32) × (Nat → Int32) × (Nat → Int32)) :=
  pn_bd6 (f_X7_findAll N v_t_cases v_t_lastReason r_t_caseFirst r_t_finds r_t_label r_t_reason r_q1) fun v_t_cases_u1 v_t_lastReason_u1 r_t_caseFirst_u1 r_t_finds_u1 r_t_label_u1 r_t_reason_u1 =>
  pn_bd1 (f_X7_allNotes r_q1) fun ru2 =>
  pn_bd1 (f_X7_manyRefs N r_q1 ru2) fun ru3 =>
  pn_bd1 (f_X7_manyFound N r_t_finds_u1) fun ru4 =>
  some (ru3 - ru4, v_t_cases_u1, v_t_lastReason_u1, r_t_caseFirst_u1, r_t_finds_u1, r_t_label_u1, r_t_reason_u1)
set_option maxHeartbeats 4000000 in
set_option maxRecDepth 100000 in
theorem c_X7_dead (l : Launch) (D : va_G) (cI cJ cZ : ClassId) (a_t a_t_text a_t_readPage a_t_page a_t_trial a_t_work a_t_book a_t_kept a_t_isKept a_t_seenWhat a_t_seenV a_t_seenIs a_t_label a_t_finds a_t_reason a_t_caseFirst a_t_brief a_t_printed a_t_renamed a_t_worth a_q1 : Nat) (sz : Nat) (v_t_thrown : Int32) (v_t_textSize : Int32) (v_t_place : Int32) (v_t_doings : Int32) (v_t_seen : Int32) (v_t_seed : Int64) (v_t_printedSize : Int32) (N : Nat) (v_t_cases : Int32) (v_t_lastReason : Int32) (r_t_caseFirst : Nat → Int32) (r_t_finds : Nat → Int32) (r_t_label : Nat → Int32) (r_t_reason : Nat → Int32) (r_q1 : Nat → Int32) (rR : Int32) (o_t_cases : Int32) (o_t_lastReason : Int32) (o_t_caseFirst : Nat → Int32) (o_t_finds : Nat → Int32) (o_t_label : Nat → Int32) (o_t_reason : Nat → Int32) (hf : f_X7_dead N v_t_cases v_t_lastReason r_t_caseFirst r_t_finds r_t_label r_t_reason r_q1 = some (rR, o_t_cases, o_t_lastReason, o_t_caseFirst, o_t_finds, o_t_label, o_t_reason)) : Met l yX7_dead wsX7_dead { frames := 7, cells := 0, slots := 0, locals := 168 } (pn_Pc D cI cJ cZ [.ref a_t, .ref a_q1] [(a_t, .inr (6, [.int v_t_thrown, .ref a_t_text, .int v_t_textSize, .int v_t_place, .ref a_t_readPage, .ref a_t_page, .ref a_t_trial, .ref a_t_work, .ref a_t_book, .int v_t_doings, .ref a_t_kept, .ref a_t_isKept, .int v_t_seen, .ref a_t_seenWhat, .ref a_t_seenV, .ref a_t_seenIs, .long v_t_seed, .ref a_t_label, .ref a_t_finds, .ref a_t_reason, .ref a_t_caseFirst, .int v_t_cases, .ref a_t_brief, .ref a_t_printed, .int v_t_printedSize, .ref a_t_renamed, .ref a_t_worth, .int v_t_lastReason])), (a_t_caseFirst, .inl (cI, 32, .inl r_t_caseFirst)), (a_t_finds, .inl (cI, 32, .inl r_t_finds)), (a_t_label, .inl (cI, 32, .inl r_t_label)), (a_t_reason, .inl (cI, 32, .inl r_t_reason)), (a_q1, .inl (cI, 265, .inl r_q1))] sz) (pn_Qi D rR [(a_t, .inr (6, [.int v_t_thrown, .ref a_t_text, .int v_t_textSize, .int v_t_place, .ref a_t_readPage, .ref a_t_page, .ref a_t_trial, .ref a_t_work, .ref a_t_book, .int v_t_doings, .ref a_t_kept, .ref a_t_isKept, .int v_t_seen, .ref a_t_seenWhat, .ref a_t_seenV, .ref a_t_seenIs, .long v_t_seed, .ref a_t_label, .ref a_t_finds, .ref a_t_reason, .ref a_t_caseFirst, .int o_t_cases, .ref a_t_brief, .ref a_t_printed, .int v_t_printedSize, .ref a_t_renamed, .ref a_t_worth, .int o_t_lastReason])), (a_t_caseFirst, .inl (cI, 32, .inl o_t_caseFirst)), (a_t_finds, .inl (cI, 32, .inl o_t_finds)), (a_t_label, .inl (cI, 32, .inl o_t_label)), (a_t_reason, .inl (cI, 32, .inl o_t_reason)), (a_q1, .inl (cI, 265, .inl r_q1))] (va_A [(a_t, .inr (6, [.int v_t_thrown, .ref a_t_text, .int v_t_textSize, .int v_t_place, .ref a_t_readPage, .ref a_t_page, .ref a_t_trial, .ref a_t_work, .ref a_t_book, .int v_t_doings, .ref a_t_kept, .ref a_t_isKept, .int v_t_seen, .ref a_t_seenWhat, .ref a_t_seenV, .ref a_t_seenIs, .long v_t_seed, .ref a_t_label, .ref a_t_finds, .ref a_t_reason, .ref a_t_caseFirst, .int v_t_cases, .ref a_t_brief, .ref a_t_printed, .int v_t_printedSize, .ref a_t_renamed, .ref a_t_worth, .int v_t_lastReason])), (a_t_caseFirst, .inl (cI, 32, .inl r_t_caseFirst)), (a_t_finds, .inl (cI, 32, .inl r_t_finds)), (a_t_label, .inl (cI, 32, .inl r_t_label)), (a_t_reason, .inl (cI, 32, .inl r_t_reason)), (a_q1, .inl (cI, 265, .inl r_q1))] sz)) 0 0 (va_A [(a_t, .inr (6, [.int v_t_thrown, .ref a_t_text, .int v_t_textSize, .int v_t_place, .ref a_t_readPage, .ref a_t_page, .ref a_t_trial, .ref a_t_work, .ref a_t_book, .int v_t_doings, .ref a_t_kept, .ref a_t_isKept, .int v_t_seen, .ref a_t_seenWhat, .ref a_t_seenV, .ref a_t_seenIs, .long v_t_seed, .ref a_t_label, .ref a_t_finds, .ref a_t_reason, .ref a_t_caseFirst, .int v_t_cases, .ref a_t_brief, .ref a_t_printed, .int v_t_printedSize, .ref a_t_renamed, .ref a_t_worth, .int v_t_lastReason])), (a_t_caseFirst, .inl (cI, 32, .inl r_t_caseFirst)), (a_t_finds, .inl (cI, 32, .inl r_t_finds)), (a_t_label, .inl (cI, 32, .inl r_t_label)), (a_t_reason, .inl (cI, 32, .inl r_t_reason)), (a_q1, .inl (cI, 265, .inl r_q1))] sz) := by
  refine pn_entry (cc := cX7_dead) (maxL := 2) (ret := (some .int)) (Qf := pn_Qi D rR [(a_t, .inr (6, [.int v_t_thrown, .ref a_t_text, .int v_t_textSize, .int v_t_place, .ref a_t_readPage, .ref a_t_page, .ref a_t_trial, .ref a_t_work, .ref a_t_book, .int v_t_doings, .ref a_t_kept, .ref a_t_isKept, .int v_t_seen, .ref a_t_seenWhat, .ref a_t_seenV, .ref a_t_seenIs, .long v_t_seed, .ref a_t_label, .ref a_t_finds, .ref a_t_reason, .ref a_t_caseFirst, .int o_t_cases, .ref a_t_brief, .ref a_t_printed, .int v_t_printedSize, .ref a_t_renamed, .ref a_t_worth, .int o_t_lastReason])), (a_t_caseFirst, .inl (cI, 32, .inl o_t_caseFirst)), (a_t_finds, .inl (cI, 32, .inl o_t_finds)), (a_t_label, .inl (cI, 32, .inl o_t_label)), (a_t_reason, .inl (cI, 32, .inl o_t_reason)), (a_q1, .inl (cI, 265, .inl r_q1))]) (by decide) rfl (Nat.le_of_ble_eq_true rfl) ?_
  intro p e s m args below meth c A ls H locs Qm hQ hx hb hr hlocks hml hown hts hK hP hD hA hS hl
  have hl : lv_has ls 2 [(0, .ref a_t), (1, .ref a_q1)] := hl
  rw [f_X7_dead] at hf
  refine lv_aload_n hx hb dX7_dead_0 rfl (lv_at hl 0 rfl) ?_
  refine lv_aload_n hx hb dX7_dead_1 rfl (lv_at hl 1 rfl) ?_
  obtain ⟨v_t_cases_u1, v_t_lastReason_u1, r_t_caseFirst_u1, r_t_finds_u1, r_t_label_u1, r_t_reason_u1, hu1, hf⟩ := pn_bd6_at hf
  refine pn_callv [0, 1, 2, 3, 4, 5] (va_runV (As := [.ref a_q1]) (rest := []) ⟨hx, hb, hml, hown, hts⟩ (c_X7_findAll l D cI cJ cZ a_t a_t_text a_t_readPage a_t_page a_t_trial a_t_work a_t_book a_t_kept a_t_isKept a_t_seenWhat a_t_seenV a_t_seenIs a_t_label a_t_finds a_t_reason a_t_caseFirst a_t_brief a_t_printed a_t_renamed a_t_worth a_q1 H.size v_t_thrown v_t_textSize v_t_place v_t_doings v_t_seen v_t_seed v_t_printedSize N v_t_cases v_t_lastReason r_t_caseFirst r_t_finds r_t_label r_t_reason r_q1 v_t_cases_u1 v_t_lastReason_u1 r_t_caseFirst_u1 r_t_finds_u1 r_t_label_u1 r_t_reason_u1 hu1) (cwV 1 hts gX7_dead_X7_findAll rfl rfl rfl hdX7_findAll ⟨Nat.le_of_ble_eq_true rfl, Nat.le_of_ble_eq_true rfl⟩) (pn_preV [0, 1, 2, 3, 4, 5] hP (hD.addr rfl) hK rfl rfl (q0 := 0) (ci := 6) rfl rfl) rfl rfl hl.1 rfl (lv_room (Nat.le_of_ble_eq_true rfl)) dX7_dead_2 ⟨Nat.zero_le _, Nat.zero_le _⟩) hP (hD.addr rfl) hS hA rfl rfl rfl (fun H locs (hP : va_P D vwCl [(a_t, .inr (6, [.int v_t_thrown, .ref a_t_text, .int v_t_textSize, .int v_t_place, .ref a_t_readPage, .ref a_t_page, .ref a_t_trial, .ref a_t_work, .ref a_t_book, .int v_t_doings, .ref a_t_kept, .ref a_t_isKept, .int v_t_seen, .ref a_t_seenWhat, .ref a_t_seenV, .ref a_t_seenIs, .long v_t_seed, .ref a_t_label, .ref a_t_finds, .ref a_t_reason, .ref a_t_caseFirst, .int v_t_cases_u1, .ref a_t_brief, .ref a_t_printed, .int v_t_printedSize, .ref a_t_renamed, .ref a_t_worth, .int v_t_lastReason_u1])), (a_t_caseFirst, .inl (cI, 32, .inl r_t_caseFirst_u1)), (a_t_finds, .inl (cI, 32, .inl r_t_finds_u1)), (a_t_label, .inl (cI, 32, .inl r_t_label_u1)), (a_t_reason, .inl (cI, 32, .inl r_t_reason_u1)), (a_q1, .inl (cI, 265, .inl r_q1))] H) _ hS => ?_)
  refine lv_aload_n hx hb dX7_dead_5 rfl (lv_at hl 1 rfl) ?_
  refine lv_aload_n hx hb dX7_dead_6 rfl (lv_at hl 1 rfl) ?_
  obtain ⟨ru2, hu2, hf⟩ := pn_bd1_at hf
  refine pn_calli [5] (va_runS (As := [.ref a_q1]) (rest := [.ref a_q1]) ⟨hx, hb, hml, hown, hts⟩ (c_X7_allNotes l D cI cJ cZ a_q1 H.size r_q1 ru2 hu2) (va_cwS 1 hts gX7_dead_X7_allNotes rfl rfl rfl hdX7_allNotes ⟨Nat.le_of_ble_eq_true rfl, Nat.le_of_ble_eq_true rfl⟩) (pn_preS [5] hP (hD.addr rfl) hK rfl rfl) rfl rfl hl.1 rfl (lv_room (Nat.le_of_ble_eq_true rfl)) dX7_dead_7 ⟨Nat.zero_le _, Nat.zero_le _⟩) hP (hD.addr rfl) hS hA rfl rfl rfl (fun H locs (hP : va_P D vwCl [(a_t, .inr (6, [.int v_t_thrown, .ref a_t_text, .int v_t_textSize, .int v_t_place, .ref a_t_readPage, .ref a_t_page, .ref a_t_trial, .ref a_t_work, .ref a_t_book, .int v_t_doings, .ref a_t_kept, .ref a_t_isKept, .int v_t_seen, .ref a_t_seenWhat, .ref a_t_seenV, .ref a_t_seenIs, .long v_t_seed, .ref a_t_label, .ref a_t_finds, .ref a_t_reason, .ref a_t_caseFirst, .int v_t_cases_u1, .ref a_t_brief, .ref a_t_printed, .int v_t_printedSize, .ref a_t_renamed, .ref a_t_worth, .int v_t_lastReason_u1])), (a_t_caseFirst, .inl (cI, 32, .inl r_t_caseFirst_u1)), (a_t_finds, .inl (cI, 32, .inl r_t_finds_u1)), (a_t_label, .inl (cI, 32, .inl r_t_label_u1)), (a_t_reason, .inl (cI, 32, .inl r_t_reason_u1)), (a_q1, .inl (cI, 265, .inl r_q1))] H) _ hS => ?_)
  obtain ⟨ru3, hu3, hf⟩ := pn_bd1_at hf
  refine pn_calli [5] (va_runS (As := [.ref a_q1, .int ru2]) (rest := []) ⟨hx, hb, hml, hown, hts⟩ (c_X7_manyRefs l D cI cJ cZ a_q1 H.size N r_q1 ru2 ru3 hu3) (va_cwS 2 hts gX7_dead_X7_manyRefs rfl rfl rfl hdX7_manyRefs ⟨Nat.le_of_ble_eq_true rfl, Nat.le_of_ble_eq_true rfl⟩) (pn_preS [5] hP (hD.addr rfl) hK rfl rfl) rfl rfl hl.1 rfl (lv_room (Nat.le_of_ble_eq_true rfl)) dX7_dead_10 ⟨Nat.zero_le _, Nat.zero_le _⟩) hP (hD.addr rfl) hS hA rfl rfl rfl (fun H locs (hP : va_P D vwCl [(a_t, .inr (6, [.int v_t_thrown, .ref a_t_text, .int v_t_textSize, .int v_t_place, .ref a_t_readPage, .ref a_t_page, .ref a_t_trial, .ref a_t_work, .ref a_t_book, .int v_t_doings, .ref a_t_kept, .ref a_t_isKept, .int v_t_seen, .ref a_t_seenWhat, .ref a_t_seenV, .ref a_t_seenIs, .long v_t_seed, .ref a_t_label, .ref a_t_finds, .ref a_t_reason, .ref a_t_caseFirst, .int v_t_cases_u1, .ref a_t_brief, .ref a_t_printed, .int v_t_printedSize, .ref a_t_renamed, .ref a_t_worth, .int v_t_lastReason_u1])), (a_t_caseFirst, .inl (cI, 32, .inl r_t_caseFirst_u1)), (a_t_finds, .inl (cI, 32, .inl r_t_finds_u1)), (a_t_label, .inl (cI, 32, .inl r_t_label_u1)), (a_t_reason, .inl (cI, 32, .inl r_t_reason_u1)), (a_q1, .inl (cI, 265, .inl r_q1))] H) _ hS => ?_)
  refine lv_aload_n hx hb dX7_dead_13 rfl (lv_at hl 0 rfl) ?_
  obtain ⟨ru4, hu4, hf⟩ := pn_bd1_at hf
  refine pn_calli [0, 2] (va_runV (As := []) (rest := [.int ru3]) ⟨hx, hb, hml, hown, hts⟩ (c_X7_manyFound l D cI cJ cZ a_t a_t_text a_t_readPage a_t_page a_t_trial a_t_work a_t_book a_t_kept a_t_isKept a_t_seenWhat a_t_seenV a_t_seenIs a_t_label a_t_finds a_t_reason a_t_caseFirst a_t_brief a_t_printed a_t_renamed a_t_worth H.size v_t_thrown v_t_textSize v_t_place v_t_doings v_t_seen v_t_seed v_t_cases_u1 v_t_printedSize v_t_lastReason_u1 N r_t_finds_u1 ru4 hu4) (cwV 0 hts gX7_dead_X7_manyFound rfl rfl rfl hdX7_manyFound ⟨Nat.le_of_ble_eq_true rfl, Nat.le_of_ble_eq_true rfl⟩) (pn_preV [0, 2] hP (hD.addr rfl) hK rfl rfl (q0 := 0) (ci := 6) rfl rfl) rfl rfl hl.1 rfl (lv_room (Nat.le_of_ble_eq_true rfl)) dX7_dead_14 ⟨Nat.zero_le _, Nat.zero_le _⟩) hP (hD.addr rfl) hS hA rfl rfl rfl (fun H locs (hP : va_P D vwCl [(a_t, .inr (6, [.int v_t_thrown, .ref a_t_text, .int v_t_textSize, .int v_t_place, .ref a_t_readPage, .ref a_t_page, .ref a_t_trial, .ref a_t_work, .ref a_t_book, .int v_t_doings, .ref a_t_kept, .ref a_t_isKept, .int v_t_seen, .ref a_t_seenWhat, .ref a_t_seenV, .ref a_t_seenIs, .long v_t_seed, .ref a_t_label, .ref a_t_finds, .ref a_t_reason, .ref a_t_caseFirst, .int v_t_cases_u1, .ref a_t_brief, .ref a_t_printed, .int v_t_printedSize, .ref a_t_renamed, .ref a_t_worth, .int v_t_lastReason_u1])), (a_t_caseFirst, .inl (cI, 32, .inl r_t_caseFirst_u1)), (a_t_finds, .inl (cI, 32, .inl r_t_finds_u1)), (a_t_label, .inl (cI, 32, .inl r_t_label_u1)), (a_t_reason, .inl (cI, 32, .inl r_t_reason_u1)), (a_q1, .inl (cI, 265, .inl r_q1))] H) _ hS => ?_)
  refine lv_isub hx hb dX7_dead_17 ?_
  cases hf
  rw [hQ]
  exact pn_reti hx hb hr hlocks hP hS rfl dX7_dead_18
def lp_X7_isPast_19 (r_t_finds : Nat → Int32) (r_q1 : Nat → Int32) (p2 : Int32) (p3 : Int32) (x4 : Int32) : Nat → Int32 → Int32 → Option (Int32)
  | 0, _, _ => none
  | n + 1, x5, x6 =>
    if (64 : Int32) ≤ x6 then
  some x5
  else
  pn_nm (x6 / (2 : Int32)) fun z2 =>
  pn_bd1 (f_X7_allNotes r_q1) fun ru3 =>
  pn_bd1 (f_X7_isSpelled r_q1 ru3 z2) fun ru4 =>
  if ru4 = 0 then
  pn_nm (x6 + (1 : Int32)) fun z6 =>
  lp_X7_isPast_19 r_t_finds r_q1 p2 p3 x4 n x5 z6
  else
  pn_rd 32 r_t_finds z2 fun w7 =>
  if w7 = p2 then
  pn_nm (x6 + (1 : Int32)) fun z10 =>
  lp_X7_isPast_19 r_t_finds r_q1 p2 p3 x4 n x5 z10
  else
  pn_bd1 (f_X7_ref r_q1 z2 ((3 : Int32) + (x6 - x6 / (2 : Int32) * (2 : Int32)))) fun ru11 =>
  if ¬ x5 = 0 then
  pn_nm (x6 + (1 : Int32)) fun z13 =>
  lp_X7_isPast_19 r_t_finds r_q1 p2 p3 x4 n (1 : Int32) z13
  else
  if ¬ (ru11 / (100 : Int32)) = (x4 / (100 : Int32)) then
  pn_nm (x6 + (1 : Int32)) fun z15 =>
  lp_X7_isPast_19 r_t_finds r_q1 p2 p3 x4 n (0 : Int32) z15
  else
  if ru11 ≤ x4 then
  pn_nm (x6 + (1 : Int32)) fun z17 =>
  lp_X7_isPast_19 r_t_finds r_q1 p2 p3 x4 n (0 : Int32) z17
  else
  if p3 < (ru11 - ru11 / (100 : Int32) * (100 : Int32)) then
  pn_nm (x6 + (1 : Int32)) fun z19 =>
  lp_X7_isPast_19 r_t_finds r_q1 p2 p3 x4 n (0 : Int32) z19
  else
  pn_nm (x6 + (1 : Int32)) fun z20 =>
  lp_X7_isPast_19 r_t_finds r_q1 p2 p3 x4 n (1 : Int32) z20
def f_X7_isPast (N : Nat) (r_t_caseFirst : Nat → Int32) (r_t_finds : Nat → Int32) (r_q1 : Nat → Int32) (p2 : Int32) (p3 : Int32) : Option (Int32) :=
  pn_rd 32 r_t_caseFirst p2 fun w21 =>
  pn_bd1 (f_X7_ref r_q1 w21 (3 : Int32)) fun ru23 =>
  pn_bd1 (lp_X7_isPast_19 r_t_finds r_q1 p2 p3 ru23 N (0 : Int32) (0 : Int32)) (fun X19 => (pn_u1 fun x5_w24 => pn_bz x5_w24 <|
  some x5_w24) X19)
set_option maxHeartbeats 4000000 in
set_option maxRecDepth 100000 in
theorem c_X7_isPast (l : Launch) (D : va_G) (cI cJ cZ : ClassId) (a_t a_t_text a_t_readPage a_t_page a_t_trial a_t_work a_t_book a_t_kept a_t_isKept a_t_seenWhat a_t_seenV a_t_seenIs a_t_label a_t_finds a_t_reason a_t_caseFirst a_t_brief a_t_printed a_t_renamed a_t_worth a_q1 : Nat) (sz : Nat) (v_t_thrown : Int32) (v_t_textSize : Int32) (v_t_place : Int32) (v_t_doings : Int32) (v_t_seen : Int32) (v_t_seed : Int64) (v_t_cases : Int32) (v_t_printedSize : Int32) (v_t_lastReason : Int32) (N : Nat) (r_t_caseFirst : Nat → Int32) (r_t_finds : Nat → Int32) (r_q1 : Nat → Int32) (p2 : Int32) (p3 : Int32) (rR : Int32) (hf : f_X7_isPast N r_t_caseFirst r_t_finds r_q1 p2 p3 = some rR) : Met l yX7_isPast wsX7_isPast { frames := 4, cells := 0, slots := 0, locals := 91 } (pn_Pc D cI cJ cZ [.ref a_t, .ref a_q1, .int p2, .int p3] [(a_t, .inr (6, [.int v_t_thrown, .ref a_t_text, .int v_t_textSize, .int v_t_place, .ref a_t_readPage, .ref a_t_page, .ref a_t_trial, .ref a_t_work, .ref a_t_book, .int v_t_doings, .ref a_t_kept, .ref a_t_isKept, .int v_t_seen, .ref a_t_seenWhat, .ref a_t_seenV, .ref a_t_seenIs, .long v_t_seed, .ref a_t_label, .ref a_t_finds, .ref a_t_reason, .ref a_t_caseFirst, .int v_t_cases, .ref a_t_brief, .ref a_t_printed, .int v_t_printedSize, .ref a_t_renamed, .ref a_t_worth, .int v_t_lastReason])), (a_t_caseFirst, .inl (cI, 32, .inl r_t_caseFirst)), (a_t_finds, .inl (cI, 32, .inl r_t_finds)), (a_q1, .inl (cI, 265, .inl r_q1))] sz) (pn_Qi D rR [(a_t, .inr (6, [.int v_t_thrown, .ref a_t_text, .int v_t_textSize, .int v_t_place, .ref a_t_readPage, .ref a_t_page, .ref a_t_trial, .ref a_t_work, .ref a_t_book, .int v_t_doings, .ref a_t_kept, .ref a_t_isKept, .int v_t_seen, .ref a_t_seenWhat, .ref a_t_seenV, .ref a_t_seenIs, .long v_t_seed, .ref a_t_label, .ref a_t_finds, .ref a_t_reason, .ref a_t_caseFirst, .int v_t_cases, .ref a_t_brief, .ref a_t_printed, .int v_t_printedSize, .ref a_t_renamed, .ref a_t_worth, .int v_t_lastReason])), (a_t_caseFirst, .inl (cI, 32, .inl r_t_caseFirst)), (a_t_finds, .inl (cI, 32, .inl r_t_finds)), (a_q1, .inl (cI, 265, .inl r_q1))] (va_A [(a_t, .inr (6, [.int v_t_thrown, .ref a_t_text, .int v_t_textSize, .int v_t_place, .ref a_t_readPage, .ref a_t_page, .ref a_t_trial, .ref a_t_work, .ref a_t_book, .int v_t_doings, .ref a_t_kept, .ref a_t_isKept, .int v_t_seen, .ref a_t_seenWhat, .ref a_t_seenV, .ref a_t_seenIs, .long v_t_seed, .ref a_t_label, .ref a_t_finds, .ref a_t_reason, .ref a_t_caseFirst, .int v_t_cases, .ref a_t_brief, .ref a_t_printed, .int v_t_printedSize, .ref a_t_renamed, .ref a_t_worth, .int v_t_lastReason])), (a_t_caseFirst, .inl (cI, 32, .inl r_t_caseFirst)), (a_t_finds, .inl (cI, 32, .inl r_t_finds)), (a_q1, .inl (cI, 265, .inl r_q1))] sz)) 0 0 (va_A [(a_t, .inr (6, [.int v_t_thrown, .ref a_t_text, .int v_t_textSize, .int v_t_place, .ref a_t_readPage, .ref a_t_page, .ref a_t_trial, .ref a_t_work, .ref a_t_book, .int v_t_doings, .ref a_t_kept, .ref a_t_isKept, .int v_t_seen, .ref a_t_seenWhat, .ref a_t_seenV, .ref a_t_seenIs, .long v_t_seed, .ref a_t_label, .ref a_t_finds, .ref a_t_reason, .ref a_t_caseFirst, .int v_t_cases, .ref a_t_brief, .ref a_t_printed, .int v_t_printedSize, .ref a_t_renamed, .ref a_t_worth, .int v_t_lastReason])), (a_t_caseFirst, .inl (cI, 32, .inl r_t_caseFirst)), (a_t_finds, .inl (cI, 32, .inl r_t_finds)), (a_q1, .inl (cI, 265, .inl r_q1))] sz) := by
  refine pn_entry (cc := cX7_isPast) (maxL := 9) (ret := (some .boolean)) (Qf := pn_Qi D rR [(a_t, .inr (6, [.int v_t_thrown, .ref a_t_text, .int v_t_textSize, .int v_t_place, .ref a_t_readPage, .ref a_t_page, .ref a_t_trial, .ref a_t_work, .ref a_t_book, .int v_t_doings, .ref a_t_kept, .ref a_t_isKept, .int v_t_seen, .ref a_t_seenWhat, .ref a_t_seenV, .ref a_t_seenIs, .long v_t_seed, .ref a_t_label, .ref a_t_finds, .ref a_t_reason, .ref a_t_caseFirst, .int v_t_cases, .ref a_t_brief, .ref a_t_printed, .int v_t_printedSize, .ref a_t_renamed, .ref a_t_worth, .int v_t_lastReason])), (a_t_caseFirst, .inl (cI, 32, .inl r_t_caseFirst)), (a_t_finds, .inl (cI, 32, .inl r_t_finds)), (a_q1, .inl (cI, 265, .inl r_q1))]) (by decide) rfl (Nat.le_of_ble_eq_true rfl) ?_
  intro p e s m args below meth c A ls H locs Qm hQ hx hb hr hlocks hml hown hts hK hP hD hA hS hl
  have hl : lv_has ls 9 [(0, .ref a_t), (1, .ref a_q1), (2, .int p2), (3, .int p3)] := hl
  have hinX7 : ∀ w ∈ wsX70, w ∈ wsX7_isPast := by decide +kernel
  have fl_47 := hts (.fieldLink RX7 47 "PointingNotesModel" "finds" "[I") (by decide +kernel)
  have fl_53 := hts (.fieldLink RX7 53 "PointingNotesModel" "caseFirst" "[I") (by decide +kernel)
  rw [f_X7_isPast] at hf
  have lp19 : ∀ (n : Nat) (x4 : Int32) (x5 : Int32) (x6 : Int32) (X : Int32) (H : Heap) (locs : List Loc) (ls : Array Slot), lp_X7_isPast_19 r_t_finds r_q1 p2 p3 x4 n x5 x6 = some X → va_P D vwCl [(a_t, .inr (6, [.int v_t_thrown, .ref a_t_text, .int v_t_textSize, .int v_t_place, .ref a_t_readPage, .ref a_t_page, .ref a_t_trial, .ref a_t_work, .ref a_t_book, .int v_t_doings, .ref a_t_kept, .ref a_t_isKept, .int v_t_seen, .ref a_t_seenWhat, .ref a_t_seenV, .ref a_t_seenIs, .long v_t_seed, .ref a_t_label, .ref a_t_finds, .ref a_t_reason, .ref a_t_caseFirst, .int v_t_cases, .ref a_t_brief, .ref a_t_printed, .int v_t_printedSize, .ref a_t_renamed, .ref a_t_worth, .int v_t_lastReason])), (a_t_caseFirst, .inl (cI, 32, .inl r_t_caseFirst)), (a_t_finds, .inl (cI, 32, .inl r_t_finds)), (a_q1, .inl (cI, 265, .inl r_q1))] H → va_S A s.heap H locs → lv_has ls 9 [(0, .ref a_t), (1, .ref a_q1), (2, .int p2), (3, .int p3), (4, .int x4), (5, .int x5), (6, .int x6)] → (∀ (y5 : Int32)  (H : Heap) (locs : List Loc) (ls : Array Slot), X = y5 → va_P D vwCl [(a_t, .inr (6, [.int v_t_thrown, .ref a_t_text, .int v_t_textSize, .int v_t_place, .ref a_t_readPage, .ref a_t_page, .ref a_t_trial, .ref a_t_work, .ref a_t_book, .int v_t_doings, .ref a_t_kept, .ref a_t_isKept, .int v_t_seen, .ref a_t_seenWhat, .ref a_t_seenV, .ref a_t_seenIs, .long v_t_seed, .ref a_t_label, .ref a_t_finds, .ref a_t_reason, .ref a_t_caseFirst, .int v_t_cases, .ref a_t_brief, .ref a_t_printed, .int v_t_printedSize, .ref a_t_renamed, .ref a_t_worth, .int v_t_lastReason])), (a_t_caseFirst, .inl (cI, 32, .inl r_t_caseFirst)), (a_t_finds, .inl (cI, 32, .inl r_t_finds)), (a_q1, .inl (cI, 265, .inl r_q1))] H → va_S A s.heap H locs → lv_has ls 9 [(5, .int y5)] → W p l e { frames := 4, cells := 0, slots := 0, locals := 91 } s m args below meth c H locs 0 0 Qm (F0 m 117 ls [])) → W p l e { frames := 4, cells := 0, slots := 0, locals := 91 } s m args below meth c H locs 0 0 Qm (F0 m 19 ls []) := by
    intro n
    induction n with
    | zero => intro x4 x5 x6 X H locs ls hf; cases hf
    | succ n ih =>
      intro x4 x5 x6 X H locs ls hf hP hS hl kx117
      rw [lp_X7_isPast_19] at hf
      refine lv_iload hx hb dX7_isPast_19 (lv_at hl 6 rfl) ?_
      refine lv_bipush (v := (64)) hx hb dX7_isPast_21 (by decide) ?_
      refine lv_icmp_ge (tgt := 117) hx hb dX7_isPast_23 (by decide) (fun c1 => ?_) (fun c1 => ?_)
      · have hf := pn_ifp c1 hf
        exact kx117 x5 H locs ls (Option.some.inj hf).symm hP hS (lv_sub hl [5] rfl)
      · have hf := pn_ifn c1 hf
        refine lv_iload hx hb dX7_isPast_26 (lv_at hl 6 rfl) ?_
        refine lv_iconst (v := (2)) hx hb dX7_isPast_28 (by decide) ?_
        refine lv_idiv hx hb dX7_isPast_29 (by decide) ?_
        refine lv_topi (fun z2 ez2 => ?_)
        have hf := pn_nm_at ez2 hf
        refine lv_istore (lv' := [(7, .int z2), (0, .ref a_t), (1, .ref a_q1), (2, .int p2), (3, .int p3), (4, .int x4), (5, .int x5), (6, .int x6)]) hx hb dX7_isPast_30 hl (by decide) rfl (fun ls hl => ?_)
        refine lv_aload_n hx hb dX7_isPast_32 rfl (lv_at hl 2 rfl) ?_
        refine lv_aload_n hx hb dX7_isPast_33 rfl (lv_at hl 2 rfl) ?_
        obtain ⟨ru3, hu3, hf⟩ := pn_bd1_at hf
        refine pn_calli [3] (va_runS (As := [.ref a_q1]) (rest := [.ref a_q1]) ⟨hx, hb, hml, hown, hts⟩ (c_X7_allNotes l D cI cJ cZ a_q1 H.size r_q1 ru3 hu3) (va_cwS 1 hts gX7_isPast_X7_allNotes rfl rfl rfl hdX7_allNotes ⟨Nat.le_of_ble_eq_true rfl, Nat.le_of_ble_eq_true rfl⟩) (pn_preS [3] hP (hD.addr rfl) hK rfl rfl) rfl rfl hl.1 rfl (lv_room (Nat.le_of_ble_eq_true rfl)) dX7_isPast_34 ⟨Nat.zero_le _, Nat.zero_le _⟩) hP (hD.addr rfl) hS hA rfl rfl rfl (fun H locs (hP : va_P D vwCl [(a_t, .inr (6, [.int v_t_thrown, .ref a_t_text, .int v_t_textSize, .int v_t_place, .ref a_t_readPage, .ref a_t_page, .ref a_t_trial, .ref a_t_work, .ref a_t_book, .int v_t_doings, .ref a_t_kept, .ref a_t_isKept, .int v_t_seen, .ref a_t_seenWhat, .ref a_t_seenV, .ref a_t_seenIs, .long v_t_seed, .ref a_t_label, .ref a_t_finds, .ref a_t_reason, .ref a_t_caseFirst, .int v_t_cases, .ref a_t_brief, .ref a_t_printed, .int v_t_printedSize, .ref a_t_renamed, .ref a_t_worth, .int v_t_lastReason])), (a_t_caseFirst, .inl (cI, 32, .inl r_t_caseFirst)), (a_t_finds, .inl (cI, 32, .inl r_t_finds)), (a_q1, .inl (cI, 265, .inl r_q1))] H) _ hS => ?_)
        refine lv_iload hx hb dX7_isPast_37 (lv_at hl 0 rfl) ?_
        obtain ⟨ru4, hu4, hf⟩ := pn_bd1_at hf
        refine pn_calli [3] (va_runS (As := [.ref a_q1, .int ru3, .int z2]) (rest := []) ⟨hx, hb, hml, hown, hts⟩ (c_X7_isSpelled l D cI cJ cZ a_q1 H.size r_q1 ru3 z2 ru4 hu4) (va_cwS 3 hts gX7_isPast_X7_isSpelled rfl rfl rfl hdX7_isSpelled ⟨Nat.le_of_ble_eq_true rfl, Nat.le_of_ble_eq_true rfl⟩) (pn_preS [3] hP (hD.addr rfl) hK rfl rfl) rfl rfl hl.1 rfl (lv_room (Nat.le_of_ble_eq_true rfl)) dX7_isPast_39 ⟨Nat.zero_le _, Nat.zero_le _⟩) hP (hD.addr rfl) hS hA rfl rfl rfl (fun H locs (hP : va_P D vwCl [(a_t, .inr (6, [.int v_t_thrown, .ref a_t_text, .int v_t_textSize, .int v_t_place, .ref a_t_readPage, .ref a_t_page, .ref a_t_trial, .ref a_t_work, .ref a_t_book, .int v_t_doings, .ref a_t_kept, .ref a_t_isKept, .int v_t_seen, .ref a_t_seenWhat, .ref a_t_seenV, .ref a_t_seenIs, .long v_t_seed, .ref a_t_label, .ref a_t_finds, .ref a_t_reason, .ref a_t_caseFirst, .int v_t_cases, .ref a_t_brief, .ref a_t_printed, .int v_t_printedSize, .ref a_t_renamed, .ref a_t_worth, .int v_t_lastReason])), (a_t_caseFirst, .inl (cI, 32, .inl r_t_caseFirst)), (a_t_finds, .inl (cI, 32, .inl r_t_finds)), (a_q1, .inl (cI, 265, .inl r_q1))] H) _ hS => ?_)
        refine lv_if_eq (tgt := 111) hx hb dX7_isPast_42 (by decide) (fun c5 => ?_) (fun c5 => ?_)
        · have hf := pn_ifp c5 hf
          obtain ⟨z6, ez6⟩ : ∃ y : Int32, y = x6 + (1) := ⟨_, rfl⟩
          have hf := pn_nm_at ez6 hf
          refine lv_iinc (v := z6) (lv' := [(6, .int z6), (7, .int z2), (0, .ref a_t), (1, .ref a_q1), (2, .int p2), (3, .int p3), (4, .int x4), (5, .int x5)]) hx hb dX7_isPast_111 hl (k := 7) rfl (by rw [ez6]; rfl) (by decide) rfl (fun ls hl => ?_)
          refine lv_goto (tgt := 19) hx hb dX7_isPast_114 (by decide) ?_
          exact ih x4 x5 z6 X H locs ls hf hP hS (lv_sub hl [2, 3, 4, 5, 6, 7, 0] rfl) kx117
        · have hf := pn_ifn c5 hf
          refine lv_aload_n hx hb dX7_isPast_45 rfl (lv_at hl 1 rfl) ?_
          refine va_get (D := D) (ci := 6) (v := .ref a_t_finds) (C := RX7) (T := TX7) (N := 28) hx hb hts hinX7 hown hK.1 hP 0 rfl rfl 18 (by decide) fl_47 (fun _ h9 => h9) rfl dX7_isPast_46 ?_
          refine lv_iload hx hb dX7_isPast_49 (lv_at hl 0 rfl) ?_
          obtain ⟨hi8, w7, ew7, hf⟩ := pn_rd_at hf
          refine pn_ldI hx hb hK.1 hP 2 0 rfl rfl hi8 ew7 dX7_isPast_51 ?_
          refine lv_iload_n hx hb dX7_isPast_52 rfl (lv_at hl 3 rfl) ?_
          refine lv_icmp_eq (tgt := 111) hx hb dX7_isPast_53 (by decide) (fun c9 => ?_) (fun c9 => ?_)
          · have hf := pn_ifp c9 hf
            obtain ⟨z10, ez10⟩ : ∃ y : Int32, y = x6 + (1) := ⟨_, rfl⟩
            have hf := pn_nm_at ez10 hf
            refine lv_iinc (v := z10) (lv' := [(6, .int z10), (7, .int z2), (0, .ref a_t), (1, .ref a_q1), (2, .int p2), (3, .int p3), (4, .int x4), (5, .int x5)]) hx hb dX7_isPast_111 hl (k := 7) rfl (by rw [ez10]; rfl) (by decide) rfl (fun ls hl => ?_)
            refine lv_goto (tgt := 19) hx hb dX7_isPast_114 (by decide) ?_
            exact ih x4 x5 z10 X H locs ls hf hP hS (lv_sub hl [2, 3, 4, 5, 6, 7, 0] rfl) kx117
          · have hf := pn_ifn c9 hf
            refine lv_aload_n hx hb dX7_isPast_56 rfl (lv_at hl 2 rfl) ?_
            refine lv_iload hx hb dX7_isPast_57 (lv_at hl 0 rfl) ?_
            refine lv_iconst (v := (3)) hx hb dX7_isPast_59 (by decide) ?_
            refine lv_iload hx hb dX7_isPast_60 (lv_at hl 7 rfl) ?_
            refine lv_iconst (v := (2)) hx hb dX7_isPast_62 (by decide) ?_
            refine lv_irem hx hb dX7_isPast_63 (by decide) ?_
            refine lv_iadd hx hb dX7_isPast_64 ?_
            obtain ⟨ru11, hu11, hf⟩ := pn_bd1_at hf
            refine pn_calli [3] (va_runS (As := [.ref a_q1, .int z2, .int ((3 : Int32) + (x6 - x6 / (2 : Int32) * (2 : Int32)))]) (rest := []) ⟨hx, hb, hml, hown, hts⟩ (c_X7_ref l D cI cJ cZ a_q1 H.size r_q1 z2 ((3 : Int32) + (x6 - x6 / (2 : Int32) * (2 : Int32))) ru11 hu11) (va_cwS 3 hts gX7_isPast_X7_ref rfl rfl rfl hdX7_ref ⟨Nat.le_of_ble_eq_true rfl, Nat.le_of_ble_eq_true rfl⟩) (pn_preS [3] hP (hD.addr rfl) hK rfl rfl) rfl rfl hl.1 rfl (lv_room (Nat.le_of_ble_eq_true rfl)) dX7_isPast_65 ⟨Nat.zero_le _, Nat.zero_le _⟩) hP (hD.addr rfl) hS hA rfl rfl rfl (fun H locs (hP : va_P D vwCl [(a_t, .inr (6, [.int v_t_thrown, .ref a_t_text, .int v_t_textSize, .int v_t_place, .ref a_t_readPage, .ref a_t_page, .ref a_t_trial, .ref a_t_work, .ref a_t_book, .int v_t_doings, .ref a_t_kept, .ref a_t_isKept, .int v_t_seen, .ref a_t_seenWhat, .ref a_t_seenV, .ref a_t_seenIs, .long v_t_seed, .ref a_t_label, .ref a_t_finds, .ref a_t_reason, .ref a_t_caseFirst, .int v_t_cases, .ref a_t_brief, .ref a_t_printed, .int v_t_printedSize, .ref a_t_renamed, .ref a_t_worth, .int v_t_lastReason])), (a_t_caseFirst, .inl (cI, 32, .inl r_t_caseFirst)), (a_t_finds, .inl (cI, 32, .inl r_t_finds)), (a_q1, .inl (cI, 265, .inl r_q1))] H) _ hS => ?_)
            refine lv_istore (lv' := [(8, .int ru11), (7, .int z2), (0, .ref a_t), (1, .ref a_q1), (2, .int p2), (3, .int p3), (4, .int x4), (5, .int x5), (6, .int x6)]) hx hb dX7_isPast_68 hl (by decide) rfl (fun ls hl => ?_)
            refine lv_iload hx hb dX7_isPast_70 (lv_at hl 7 rfl) ?_
            refine lv_if_ne (tgt := 104) hx hb dX7_isPast_72 (by decide) (fun c12 => ?_) (fun c12 => ?_)
            · have hf := pn_ifp c12 hf
              refine lv_iconst (v := (1)) hx hb dX7_isPast_104 (by decide) ?_
              refine lv_goto (tgt := 109) hx hb dX7_isPast_105 (by decide) ?_
              refine lv_istore (lv' := [(5, .int (1 : Int32)), (8, .int ru11), (7, .int z2), (0, .ref a_t), (1, .ref a_q1), (2, .int p2), (3, .int p3), (4, .int x4), (6, .int x6)]) hx hb dX7_isPast_109 hl (by decide) rfl (fun ls hl => ?_)
              obtain ⟨z13, ez13⟩ : ∃ y : Int32, y = x6 + (1) := ⟨_, rfl⟩
              have hf := pn_nm_at ez13 hf
              refine lv_iinc (v := z13) (lv' := [(6, .int z13), (5, .int (1 : Int32)), (8, .int ru11), (7, .int z2), (0, .ref a_t), (1, .ref a_q1), (2, .int p2), (3, .int p3), (4, .int x4)]) hx hb dX7_isPast_111 hl (k := 8) rfl (by rw [ez13]; rfl) (by decide) rfl (fun ls hl => ?_)
              refine lv_goto (tgt := 19) hx hb dX7_isPast_114 (by decide) ?_
              exact ih x4 (1 : Int32) z13 X H locs ls hf hP hS (lv_sub hl [4, 5, 6, 7, 8, 1, 0] rfl) kx117
            · have hf := pn_ifq c12 hf
              refine lv_iload hx hb dX7_isPast_75 (lv_at hl 0 rfl) ?_
              refine lv_bipush (v := (100)) hx hb dX7_isPast_77 (by decide) ?_
              refine lv_idiv hx hb dX7_isPast_79 (by decide) ?_
              refine lv_iload hx hb dX7_isPast_80 (lv_at hl 6 rfl) ?_
              refine lv_bipush (v := (100)) hx hb dX7_isPast_82 (by decide) ?_
              refine lv_idiv hx hb dX7_isPast_84 (by decide) ?_
              refine lv_icmp_ne (tgt := 108) hx hb dX7_isPast_85 (by decide) (fun c14 => ?_) (fun c14 => ?_)
              · have hf := pn_ifp c14 hf
                refine lv_iconst (v := (0)) hx hb dX7_isPast_108 (by decide) ?_
                refine lv_istore (lv' := [(5, .int (0 : Int32)), (8, .int ru11), (7, .int z2), (0, .ref a_t), (1, .ref a_q1), (2, .int p2), (3, .int p3), (4, .int x4), (6, .int x6)]) hx hb dX7_isPast_109 hl (by decide) rfl (fun ls hl => ?_)
                obtain ⟨z15, ez15⟩ : ∃ y : Int32, y = x6 + (1) := ⟨_, rfl⟩
                have hf := pn_nm_at ez15 hf
                refine lv_iinc (v := z15) (lv' := [(6, .int z15), (5, .int (0 : Int32)), (8, .int ru11), (7, .int z2), (0, .ref a_t), (1, .ref a_q1), (2, .int p2), (3, .int p3), (4, .int x4)]) hx hb dX7_isPast_111 hl (k := 8) rfl (by rw [ez15]; rfl) (by decide) rfl (fun ls hl => ?_)
                refine lv_goto (tgt := 19) hx hb dX7_isPast_114 (by decide) ?_
                exact ih x4 (0 : Int32) z15 X H locs ls hf hP hS (lv_sub hl [4, 5, 6, 7, 8, 1, 0] rfl) kx117
              · have hf := pn_ifq c14 hf
                refine lv_iload hx hb dX7_isPast_88 (lv_at hl 0 rfl) ?_
                refine lv_iload hx hb dX7_isPast_90 (lv_at hl 6 rfl) ?_
                refine lv_icmp_le (tgt := 108) hx hb dX7_isPast_92 (by decide) (fun c16 => ?_) (fun c16 => ?_)
                · have hf := pn_ifp c16 hf
                  refine lv_iconst (v := (0)) hx hb dX7_isPast_108 (by decide) ?_
                  refine lv_istore (lv' := [(5, .int (0 : Int32)), (8, .int ru11), (7, .int z2), (0, .ref a_t), (1, .ref a_q1), (2, .int p2), (3, .int p3), (4, .int x4), (6, .int x6)]) hx hb dX7_isPast_109 hl (by decide) rfl (fun ls hl => ?_)
                  obtain ⟨z17, ez17⟩ : ∃ y : Int32, y = x6 + (1) := ⟨_, rfl⟩
                  have hf := pn_nm_at ez17 hf
                  refine lv_iinc (v := z17) (lv' := [(6, .int z17), (5, .int (0 : Int32)), (8, .int ru11), (7, .int z2), (0, .ref a_t), (1, .ref a_q1), (2, .int p2), (3, .int p3), (4, .int x4)]) hx hb dX7_isPast_111 hl (k := 8) rfl (by rw [ez17]; rfl) (by decide) rfl (fun ls hl => ?_)
                  refine lv_goto (tgt := 19) hx hb dX7_isPast_114 (by decide) ?_
                  exact ih x4 (0 : Int32) z17 X H locs ls hf hP hS (lv_sub hl [4, 5, 6, 7, 8, 1, 0] rfl) kx117
                · have hf := pn_ifn c16 hf
                  refine lv_iload_n hx hb dX7_isPast_95 rfl (lv_at hl 5 rfl) ?_
                  refine lv_iload hx hb dX7_isPast_96 (lv_at hl 0 rfl) ?_
                  refine lv_bipush (v := (100)) hx hb dX7_isPast_98 (by decide) ?_
                  refine lv_irem hx hb dX7_isPast_100 (by decide) ?_
                  refine lv_icmp_lt (tgt := 108) hx hb dX7_isPast_101 (by decide) (fun c18 => ?_) (fun c18 => ?_)
                  · have hf := pn_ifp c18 hf
                    refine lv_iconst (v := (0)) hx hb dX7_isPast_108 (by decide) ?_
                    refine lv_istore (lv' := [(5, .int (0 : Int32)), (8, .int ru11), (7, .int z2), (0, .ref a_t), (1, .ref a_q1), (2, .int p2), (3, .int p3), (4, .int x4), (6, .int x6)]) hx hb dX7_isPast_109 hl (by decide) rfl (fun ls hl => ?_)
                    obtain ⟨z19, ez19⟩ : ∃ y : Int32, y = x6 + (1) := ⟨_, rfl⟩
                    have hf := pn_nm_at ez19 hf
                    refine lv_iinc (v := z19) (lv' := [(6, .int z19), (5, .int (0 : Int32)), (8, .int ru11), (7, .int z2), (0, .ref a_t), (1, .ref a_q1), (2, .int p2), (3, .int p3), (4, .int x4)]) hx hb dX7_isPast_111 hl (k := 8) rfl (by rw [ez19]; rfl) (by decide) rfl (fun ls hl => ?_)
                    refine lv_goto (tgt := 19) hx hb dX7_isPast_114 (by decide) ?_
                    exact ih x4 (0 : Int32) z19 X H locs ls hf hP hS (lv_sub hl [4, 5, 6, 7, 8, 1, 0] rfl) kx117
                  · have hf := pn_ifn c18 hf
                    refine lv_iconst (v := (1)) hx hb dX7_isPast_104 (by decide) ?_
                    refine lv_goto (tgt := 109) hx hb dX7_isPast_105 (by decide) ?_
                    refine lv_istore (lv' := [(5, .int (1 : Int32)), (8, .int ru11), (7, .int z2), (0, .ref a_t), (1, .ref a_q1), (2, .int p2), (3, .int p3), (4, .int x4), (6, .int x6)]) hx hb dX7_isPast_109 hl (by decide) rfl (fun ls hl => ?_)
                    obtain ⟨z20, ez20⟩ : ∃ y : Int32, y = x6 + (1) := ⟨_, rfl⟩
                    have hf := pn_nm_at ez20 hf
                    refine lv_iinc (v := z20) (lv' := [(6, .int z20), (5, .int (1 : Int32)), (8, .int ru11), (7, .int z2), (0, .ref a_t), (1, .ref a_q1), (2, .int p2), (3, .int p3), (4, .int x4)]) hx hb dX7_isPast_111 hl (k := 8) rfl (by rw [ez20]; rfl) (by decide) rfl (fun ls hl => ?_)
                    refine lv_goto (tgt := 19) hx hb dX7_isPast_114 (by decide) ?_
                    exact ih x4 (1 : Int32) z20 X H locs ls hf hP hS (lv_sub hl [4, 5, 6, 7, 8, 1, 0] rfl) kx117
  refine lv_aload_n hx hb dX7_isPast_0 rfl (lv_at hl 1 rfl) ?_
  refine lv_aload_n hx hb dX7_isPast_1 rfl (lv_at hl 0 rfl) ?_
  refine va_get (D := D) (ci := 6) (v := .ref a_t_caseFirst) (C := RX7) (T := TX7) (N := 28) hx hb hts hinX7 hown hK.1 hP 0 rfl rfl 20 (by decide) fl_53 (fun _ h9 => h9) rfl dX7_isPast_2 ?_
  refine lv_iload_n hx hb dX7_isPast_5 rfl (lv_at hl 2 rfl) ?_
  obtain ⟨hi22, w21, ew21, hf⟩ := pn_rd_at hf
  refine pn_ldI hx hb hK.1 hP 1 0 rfl rfl hi22 ew21 dX7_isPast_6 ?_
  refine lv_iconst (v := (3)) hx hb dX7_isPast_7 (by decide) ?_
  obtain ⟨ru23, hu23, hf⟩ := pn_bd1_at hf
  refine pn_calli [3] (va_runS (As := [.ref a_q1, .int w21, .int (3 : Int32)]) (rest := []) ⟨hx, hb, hml, hown, hts⟩ (c_X7_ref l D cI cJ cZ a_q1 H.size r_q1 w21 (3 : Int32) ru23 hu23) (va_cwS 3 hts gX7_isPast_X7_ref rfl rfl rfl hdX7_ref ⟨Nat.le_of_ble_eq_true rfl, Nat.le_of_ble_eq_true rfl⟩) (pn_preS [3] hP (hD.addr rfl) hK rfl rfl) rfl rfl hl.1 rfl (lv_room (Nat.le_of_ble_eq_true rfl)) dX7_isPast_8 ⟨Nat.zero_le _, Nat.zero_le _⟩) hP (hD.addr rfl) hS hA rfl rfl rfl (fun H locs (hP : va_P D vwCl [(a_t, .inr (6, [.int v_t_thrown, .ref a_t_text, .int v_t_textSize, .int v_t_place, .ref a_t_readPage, .ref a_t_page, .ref a_t_trial, .ref a_t_work, .ref a_t_book, .int v_t_doings, .ref a_t_kept, .ref a_t_isKept, .int v_t_seen, .ref a_t_seenWhat, .ref a_t_seenV, .ref a_t_seenIs, .long v_t_seed, .ref a_t_label, .ref a_t_finds, .ref a_t_reason, .ref a_t_caseFirst, .int v_t_cases, .ref a_t_brief, .ref a_t_printed, .int v_t_printedSize, .ref a_t_renamed, .ref a_t_worth, .int v_t_lastReason])), (a_t_caseFirst, .inl (cI, 32, .inl r_t_caseFirst)), (a_t_finds, .inl (cI, 32, .inl r_t_finds)), (a_q1, .inl (cI, 265, .inl r_q1))] H) _ hS => ?_)
  refine lv_istore (lv' := [(4, .int ru23), (0, .ref a_t), (1, .ref a_q1), (2, .int p2), (3, .int p3)]) hx hb dX7_isPast_11 hl (by decide) rfl (fun ls hl => ?_)
  refine lv_iconst (v := (0)) hx hb dX7_isPast_13 (by decide) ?_
  refine lv_istore (lv' := [(5, .int (0 : Int32)), (4, .int ru23), (0, .ref a_t), (1, .ref a_q1), (2, .int p2), (3, .int p3)]) hx hb dX7_isPast_14 hl (by decide) rfl (fun ls hl => ?_)
  refine lv_iconst (v := (0)) hx hb dX7_isPast_16 (by decide) ?_
  refine lv_istore (lv' := [(6, .int (0 : Int32)), (5, .int (0 : Int32)), (4, .int ru23), (0, .ref a_t), (1, .ref a_q1), (2, .int p2), (3, .int p3)]) hx hb dX7_isPast_17 hl (by decide) rfl (fun ls hl => ?_)
  obtain ⟨X19, hX19, hf⟩ := pn_bd1_at hf
  refine lp19 N ru23 (0 : Int32) (0 : Int32) X19 H locs ls hX19 hP hS (lv_sub hl [3, 4, 5, 6, 2, 1, 0] rfl) ?_
  · intro x5_w24 H locs ls eX hP hS hl
    rw [eX] at hf
    have hf := pn_u1_at hf
    refine lv_iload hx hb dX7_isPast_117 (lv_at hl 0 rfl) ?_
    obtain ⟨hn25, hf⟩ := pn_bz_at hf
    cases hf
    rw [hQ]
    exact pn_retz hx hb hr hlocks hP hS rfl hn25 dX7_isPast_119
def f_X7_pinned (N : Nat) (r_t_caseFirst : Nat → Int32) (r_t_finds : Nat → Int32) (r_q1 : Nat → Int32) (p2 : Int32) : Option (Int32) :=
  pn_bd1 (f_X7_ref r_q1 p2 (7 : Int32)) fun ru1 =>
  pn_rd 32 r_t_finds p2 fun w2 =>
  if ¬ w2 = (-9 : Int32) then
  if ¬ ru1 = 0 then
  pn_rd 32 r_t_finds p2 fun w6 =>
  pn_rd 32 r_t_caseFirst w6 fun w8 =>
  pn_bd1 (f_X7_ref r_q1 w8 (3 : Int32)) fun ru10 =>
  if (ru10 - ru10 / (100 : Int32) * (100 : Int32)) ≤ ru1 then
  pn_rd 32 r_t_finds p2 fun w12 =>
  pn_bd1 (f_X7_isPast N r_t_caseFirst r_t_finds r_q1 w12 ru1) fun ru14 =>
  if ru14 = 0 then
  some (0 : Int32)
  else
  some (3 : Int32)
  else
  some (2 : Int32)
  else
  some (1 : Int32)
  else
  some (4 : Int32)
set_option maxHeartbeats 4000000 in
set_option maxRecDepth 100000 in
theorem c_X7_pinned (l : Launch) (D : va_G) (cI cJ cZ : ClassId) (a_t a_t_text a_t_readPage a_t_page a_t_trial a_t_work a_t_book a_t_kept a_t_isKept a_t_seenWhat a_t_seenV a_t_seenIs a_t_label a_t_finds a_t_reason a_t_caseFirst a_t_brief a_t_printed a_t_renamed a_t_worth a_q1 : Nat) (sz : Nat) (v_t_thrown : Int32) (v_t_textSize : Int32) (v_t_place : Int32) (v_t_doings : Int32) (v_t_seen : Int32) (v_t_seed : Int64) (v_t_cases : Int32) (v_t_printedSize : Int32) (v_t_lastReason : Int32) (N : Nat) (r_t_caseFirst : Nat → Int32) (r_t_finds : Nat → Int32) (r_q1 : Nat → Int32) (p2 : Int32) (rR : Int32) (hf : f_X7_pinned N r_t_caseFirst r_t_finds r_q1 p2 = some rR) : Met l yX7_pinned wsX7_pinned { frames := 5, cells := 0, slots := 0, locals := 119 } (pn_Pc D cI cJ cZ [.ref a_t, .ref a_q1, .int p2] [(a_t, .inr (6, [.int v_t_thrown, .ref a_t_text, .int v_t_textSize, .int v_t_place, .ref a_t_readPage, .ref a_t_page, .ref a_t_trial, .ref a_t_work, .ref a_t_book, .int v_t_doings, .ref a_t_kept, .ref a_t_isKept, .int v_t_seen, .ref a_t_seenWhat, .ref a_t_seenV, .ref a_t_seenIs, .long v_t_seed, .ref a_t_label, .ref a_t_finds, .ref a_t_reason, .ref a_t_caseFirst, .int v_t_cases, .ref a_t_brief, .ref a_t_printed, .int v_t_printedSize, .ref a_t_renamed, .ref a_t_worth, .int v_t_lastReason])), (a_t_caseFirst, .inl (cI, 32, .inl r_t_caseFirst)), (a_t_finds, .inl (cI, 32, .inl r_t_finds)), (a_q1, .inl (cI, 265, .inl r_q1))] sz) (pn_Qi D rR [(a_t, .inr (6, [.int v_t_thrown, .ref a_t_text, .int v_t_textSize, .int v_t_place, .ref a_t_readPage, .ref a_t_page, .ref a_t_trial, .ref a_t_work, .ref a_t_book, .int v_t_doings, .ref a_t_kept, .ref a_t_isKept, .int v_t_seen, .ref a_t_seenWhat, .ref a_t_seenV, .ref a_t_seenIs, .long v_t_seed, .ref a_t_label, .ref a_t_finds, .ref a_t_reason, .ref a_t_caseFirst, .int v_t_cases, .ref a_t_brief, .ref a_t_printed, .int v_t_printedSize, .ref a_t_renamed, .ref a_t_worth, .int v_t_lastReason])), (a_t_caseFirst, .inl (cI, 32, .inl r_t_caseFirst)), (a_t_finds, .inl (cI, 32, .inl r_t_finds)), (a_q1, .inl (cI, 265, .inl r_q1))] (va_A [(a_t, .inr (6, [.int v_t_thrown, .ref a_t_text, .int v_t_textSize, .int v_t_place, .ref a_t_readPage, .ref a_t_page, .ref a_t_trial, .ref a_t_work, .ref a_t_book, .int v_t_doings, .ref a_t_kept, .ref a_t_isKept, .int v_t_seen, .ref a_t_seenWhat, .ref a_t_seenV, .ref a_t_seenIs, .long v_t_seed, .ref a_t_label, .ref a_t_finds, .ref a_t_reason, .ref a_t_caseFirst, .int v_t_cases, .ref a_t_brief, .ref a_t_printed, .int v_t_printedSize, .ref a_t_renamed, .ref a_t_worth, .int v_t_lastReason])), (a_t_caseFirst, .inl (cI, 32, .inl r_t_caseFirst)), (a_t_finds, .inl (cI, 32, .inl r_t_finds)), (a_q1, .inl (cI, 265, .inl r_q1))] sz)) 0 0 (va_A [(a_t, .inr (6, [.int v_t_thrown, .ref a_t_text, .int v_t_textSize, .int v_t_place, .ref a_t_readPage, .ref a_t_page, .ref a_t_trial, .ref a_t_work, .ref a_t_book, .int v_t_doings, .ref a_t_kept, .ref a_t_isKept, .int v_t_seen, .ref a_t_seenWhat, .ref a_t_seenV, .ref a_t_seenIs, .long v_t_seed, .ref a_t_label, .ref a_t_finds, .ref a_t_reason, .ref a_t_caseFirst, .int v_t_cases, .ref a_t_brief, .ref a_t_printed, .int v_t_printedSize, .ref a_t_renamed, .ref a_t_worth, .int v_t_lastReason])), (a_t_caseFirst, .inl (cI, 32, .inl r_t_caseFirst)), (a_t_finds, .inl (cI, 32, .inl r_t_finds)), (a_q1, .inl (cI, 265, .inl r_q1))] sz) := by
  refine pn_entry (cc := cX7_pinned) (maxL := 4) (ret := (some .int)) (Qf := pn_Qi D rR [(a_t, .inr (6, [.int v_t_thrown, .ref a_t_text, .int v_t_textSize, .int v_t_place, .ref a_t_readPage, .ref a_t_page, .ref a_t_trial, .ref a_t_work, .ref a_t_book, .int v_t_doings, .ref a_t_kept, .ref a_t_isKept, .int v_t_seen, .ref a_t_seenWhat, .ref a_t_seenV, .ref a_t_seenIs, .long v_t_seed, .ref a_t_label, .ref a_t_finds, .ref a_t_reason, .ref a_t_caseFirst, .int v_t_cases, .ref a_t_brief, .ref a_t_printed, .int v_t_printedSize, .ref a_t_renamed, .ref a_t_worth, .int v_t_lastReason])), (a_t_caseFirst, .inl (cI, 32, .inl r_t_caseFirst)), (a_t_finds, .inl (cI, 32, .inl r_t_finds)), (a_q1, .inl (cI, 265, .inl r_q1))]) (by decide) rfl (Nat.le_of_ble_eq_true rfl) ?_
  intro p e s m args below meth c A ls H locs Qm hQ hx hb hr hlocks hml hown hts hK hP hD hA hS hl
  have hl : lv_has ls 4 [(0, .ref a_t), (1, .ref a_q1), (2, .int p2)] := hl
  have hinX7 : ∀ w ∈ wsX70, w ∈ wsX7_pinned := by decide +kernel
  have fl_47 := hts (.fieldLink RX7 47 "PointingNotesModel" "finds" "[I") (by decide +kernel)
  have fl_53 := hts (.fieldLink RX7 53 "PointingNotesModel" "caseFirst" "[I") (by decide +kernel)
  rw [f_X7_pinned] at hf
  refine lv_aload_n hx hb dX7_pinned_0 rfl (lv_at hl 1 rfl) ?_
  refine lv_iload_n hx hb dX7_pinned_1 rfl (lv_at hl 2 rfl) ?_
  refine lv_bipush (v := (7)) hx hb dX7_pinned_2 (by decide) ?_
  obtain ⟨ru1, hu1, hf⟩ := pn_bd1_at hf
  refine pn_calli [3] (va_runS (As := [.ref a_q1, .int p2, .int (7 : Int32)]) (rest := []) ⟨hx, hb, hml, hown, hts⟩ (c_X7_ref l D cI cJ cZ a_q1 H.size r_q1 p2 (7 : Int32) ru1 hu1) (va_cwS 3 hts gX7_pinned_X7_ref rfl rfl rfl hdX7_ref ⟨Nat.le_of_ble_eq_true rfl, Nat.le_of_ble_eq_true rfl⟩) (pn_preS [3] hP (hD.addr rfl) hK rfl rfl) rfl rfl hl.1 rfl (lv_room (Nat.le_of_ble_eq_true rfl)) dX7_pinned_4 ⟨Nat.zero_le _, Nat.zero_le _⟩) hP (hD.addr rfl) hS hA rfl rfl rfl (fun H locs (hP : va_P D vwCl [(a_t, .inr (6, [.int v_t_thrown, .ref a_t_text, .int v_t_textSize, .int v_t_place, .ref a_t_readPage, .ref a_t_page, .ref a_t_trial, .ref a_t_work, .ref a_t_book, .int v_t_doings, .ref a_t_kept, .ref a_t_isKept, .int v_t_seen, .ref a_t_seenWhat, .ref a_t_seenV, .ref a_t_seenIs, .long v_t_seed, .ref a_t_label, .ref a_t_finds, .ref a_t_reason, .ref a_t_caseFirst, .int v_t_cases, .ref a_t_brief, .ref a_t_printed, .int v_t_printedSize, .ref a_t_renamed, .ref a_t_worth, .int v_t_lastReason])), (a_t_caseFirst, .inl (cI, 32, .inl r_t_caseFirst)), (a_t_finds, .inl (cI, 32, .inl r_t_finds)), (a_q1, .inl (cI, 265, .inl r_q1))] H) _ hS => ?_)
  refine lv_istore_n (lv' := [(3, .int ru1), (0, .ref a_t), (1, .ref a_q1), (2, .int p2)]) hx hb dX7_pinned_7 rfl hl (by decide) rfl (fun ls hl => ?_)
  refine lv_aload_n hx hb dX7_pinned_8 rfl (lv_at hl 1 rfl) ?_
  refine va_get (D := D) (ci := 6) (v := .ref a_t_finds) (C := RX7) (T := TX7) (N := 28) hx hb hts hinX7 hown hK.1 hP 0 rfl rfl 18 (by decide) fl_47 (fun _ h9 => h9) rfl dX7_pinned_9 ?_
  refine lv_iload_n hx hb dX7_pinned_12 rfl (lv_at hl 3 rfl) ?_
  obtain ⟨hi3, w2, ew2, hf⟩ := pn_rd_at hf
  refine pn_ldI hx hb hK.1 hP 2 0 rfl rfl hi3 ew2 dX7_pinned_13 ?_
  refine lv_bipush (v := (-9)) hx hb dX7_pinned_14 (by decide) ?_
  refine lv_icmp_ne (tgt := 21) hx hb dX7_pinned_16 (by decide) (fun c4 => ?_) (fun c4 => ?_)
  · have hf := pn_ifp c4 hf
    refine lv_iload_n hx hb dX7_pinned_21 rfl (lv_at hl 0 rfl) ?_
    refine lv_if_ne (tgt := 27) hx hb dX7_pinned_22 (by decide) (fun c5 => ?_) (fun c5 => ?_)
    · have hf := pn_ifp c5 hf
      refine lv_iload_n hx hb dX7_pinned_27 rfl (lv_at hl 0 rfl) ?_
      refine lv_aload_n hx hb dX7_pinned_28 rfl (lv_at hl 2 rfl) ?_
      refine lv_aload_n hx hb dX7_pinned_29 rfl (lv_at hl 1 rfl) ?_
      refine va_get (D := D) (ci := 6) (v := .ref a_t_caseFirst) (C := RX7) (T := TX7) (N := 28) hx hb hts hinX7 hown hK.1 hP 0 rfl rfl 20 (by decide) fl_53 (fun _ h9 => h9) rfl dX7_pinned_30 ?_
      refine lv_aload_n hx hb dX7_pinned_33 rfl (lv_at hl 1 rfl) ?_
      refine va_get (D := D) (ci := 6) (v := .ref a_t_finds) (C := RX7) (T := TX7) (N := 28) hx hb hts hinX7 hown hK.1 hP 0 rfl rfl 18 (by decide) fl_47 (fun _ h9 => h9) rfl dX7_pinned_34 ?_
      refine lv_iload_n hx hb dX7_pinned_37 rfl (lv_at hl 3 rfl) ?_
      obtain ⟨hi7, w6, ew6, hf⟩ := pn_rd_at hf
      refine pn_ldI hx hb hK.1 hP 2 0 rfl rfl hi7 ew6 dX7_pinned_38 ?_
      obtain ⟨hi9, w8, ew8, hf⟩ := pn_rd_at hf
      refine pn_ldI hx hb hK.1 hP 1 0 rfl rfl hi9 ew8 dX7_pinned_39 ?_
      refine lv_iconst (v := (3)) hx hb dX7_pinned_40 (by decide) ?_
      obtain ⟨ru10, hu10, hf⟩ := pn_bd1_at hf
      refine pn_calli [3] (va_runS (As := [.ref a_q1, .int w8, .int (3 : Int32)]) (rest := [.int ru1]) ⟨hx, hb, hml, hown, hts⟩ (c_X7_ref l D cI cJ cZ a_q1 H.size r_q1 w8 (3 : Int32) ru10 hu10) (va_cwS 3 hts gX7_pinned_X7_ref rfl rfl rfl hdX7_ref ⟨Nat.le_of_ble_eq_true rfl, Nat.le_of_ble_eq_true rfl⟩) (pn_preS [3] hP (hD.addr rfl) hK rfl rfl) rfl rfl hl.1 rfl (lv_room (Nat.le_of_ble_eq_true rfl)) dX7_pinned_41 ⟨Nat.zero_le _, Nat.zero_le _⟩) hP (hD.addr rfl) hS hA rfl rfl rfl (fun H locs (hP : va_P D vwCl [(a_t, .inr (6, [.int v_t_thrown, .ref a_t_text, .int v_t_textSize, .int v_t_place, .ref a_t_readPage, .ref a_t_page, .ref a_t_trial, .ref a_t_work, .ref a_t_book, .int v_t_doings, .ref a_t_kept, .ref a_t_isKept, .int v_t_seen, .ref a_t_seenWhat, .ref a_t_seenV, .ref a_t_seenIs, .long v_t_seed, .ref a_t_label, .ref a_t_finds, .ref a_t_reason, .ref a_t_caseFirst, .int v_t_cases, .ref a_t_brief, .ref a_t_printed, .int v_t_printedSize, .ref a_t_renamed, .ref a_t_worth, .int v_t_lastReason])), (a_t_caseFirst, .inl (cI, 32, .inl r_t_caseFirst)), (a_t_finds, .inl (cI, 32, .inl r_t_finds)), (a_q1, .inl (cI, 265, .inl r_q1))] H) _ hS => ?_)
      refine lv_bipush (v := (100)) hx hb dX7_pinned_44 (by decide) ?_
      refine lv_irem hx hb dX7_pinned_46 (by decide) ?_
      refine lv_icmp_ge (tgt := 54) hx hb dX7_pinned_47 (by decide) (fun c11 => ?_) (fun c11 => ?_)
      · have hf := pn_ifp c11 hf
        refine lv_aload_n hx hb dX7_pinned_54 rfl (lv_at hl 1 rfl) ?_
        refine lv_aload_n hx hb dX7_pinned_55 rfl (lv_at hl 2 rfl) ?_
        refine lv_aload_n hx hb dX7_pinned_56 rfl (lv_at hl 1 rfl) ?_
        refine va_get (D := D) (ci := 6) (v := .ref a_t_finds) (C := RX7) (T := TX7) (N := 28) hx hb hts hinX7 hown hK.1 hP 0 rfl rfl 18 (by decide) fl_47 (fun _ h9 => h9) rfl dX7_pinned_57 ?_
        refine lv_iload_n hx hb dX7_pinned_60 rfl (lv_at hl 3 rfl) ?_
        obtain ⟨hi13, w12, ew12, hf⟩ := pn_rd_at hf
        refine pn_ldI hx hb hK.1 hP 2 0 rfl rfl hi13 ew12 dX7_pinned_61 ?_
        refine lv_iload_n hx hb dX7_pinned_62 rfl (lv_at hl 0 rfl) ?_
        obtain ⟨ru14, hu14, hf⟩ := pn_bd1_at hf
        refine pn_calli [0, 1, 2, 3] (va_runV (As := [.ref a_q1, .int w12, .int ru1]) (rest := []) ⟨hx, hb, hml, hown, hts⟩ (c_X7_isPast l D cI cJ cZ a_t a_t_text a_t_readPage a_t_page a_t_trial a_t_work a_t_book a_t_kept a_t_isKept a_t_seenWhat a_t_seenV a_t_seenIs a_t_label a_t_finds a_t_reason a_t_caseFirst a_t_brief a_t_printed a_t_renamed a_t_worth a_q1 H.size v_t_thrown v_t_textSize v_t_place v_t_doings v_t_seen v_t_seed v_t_cases v_t_printedSize v_t_lastReason N r_t_caseFirst r_t_finds r_q1 w12 ru1 ru14 hu14) (cwV 3 hts gX7_pinned_X7_isPast rfl rfl rfl hdX7_isPast ⟨Nat.le_of_ble_eq_true rfl, Nat.le_of_ble_eq_true rfl⟩) (pn_preV [0, 1, 2, 3] hP (hD.addr rfl) hK rfl rfl (q0 := 0) (ci := 6) rfl rfl) rfl rfl hl.1 rfl (lv_room (Nat.le_of_ble_eq_true rfl)) dX7_pinned_63 ⟨Nat.zero_le _, Nat.zero_le _⟩) hP (hD.addr rfl) hS hA rfl rfl rfl (fun H locs (hP : va_P D vwCl [(a_t, .inr (6, [.int v_t_thrown, .ref a_t_text, .int v_t_textSize, .int v_t_place, .ref a_t_readPage, .ref a_t_page, .ref a_t_trial, .ref a_t_work, .ref a_t_book, .int v_t_doings, .ref a_t_kept, .ref a_t_isKept, .int v_t_seen, .ref a_t_seenWhat, .ref a_t_seenV, .ref a_t_seenIs, .long v_t_seed, .ref a_t_label, .ref a_t_finds, .ref a_t_reason, .ref a_t_caseFirst, .int v_t_cases, .ref a_t_brief, .ref a_t_printed, .int v_t_printedSize, .ref a_t_renamed, .ref a_t_worth, .int v_t_lastReason])), (a_t_caseFirst, .inl (cI, 32, .inl r_t_caseFirst)), (a_t_finds, .inl (cI, 32, .inl r_t_finds)), (a_q1, .inl (cI, 265, .inl r_q1))] H) _ hS => ?_)
        refine lv_if_eq (tgt := 73) hx hb dX7_pinned_66 (by decide) (fun c15 => ?_) (fun c15 => ?_)
        · have hf := pn_ifp c15 hf
          refine lv_iconst (v := (0)) hx hb dX7_pinned_73 (by decide) ?_
          cases hf
          rw [hQ]
          exact pn_reti hx hb hr hlocks hP hS rfl dX7_pinned_74
        · have hf := pn_ifn c15 hf
          refine lv_iconst (v := (3)) hx hb dX7_pinned_69 (by decide) ?_
          refine lv_goto (tgt := 74) hx hb dX7_pinned_70 (by decide) ?_
          cases hf
          rw [hQ]
          exact pn_reti hx hb hr hlocks hP hS rfl dX7_pinned_74
      · have hf := pn_ifn c11 hf
        refine lv_iconst (v := (2)) hx hb dX7_pinned_50 (by decide) ?_
        refine lv_goto (tgt := 74) hx hb dX7_pinned_51 (by decide) ?_
        cases hf
        rw [hQ]
        exact pn_reti hx hb hr hlocks hP hS rfl dX7_pinned_74
    · have hf := pn_ifq c5 hf
      refine lv_iconst (v := (1)) hx hb dX7_pinned_25 (by decide) ?_
      cases hf
      rw [hQ]
      exact pn_reti hx hb hr hlocks hP hS rfl dX7_pinned_26
  · have hf := pn_ifq c4 hf
    refine lv_iconst (v := (4)) hx hb dX7_pinned_19 (by decide) ?_
    cases hf
    rw [hQ]
    exact pn_reti hx hb hr hlocks hP hS rfl dX7_pinned_20
def f_X7_found (N : Nat) (v_t_thrown : Int32) (v_t_cases : Int32) (v_t_lastReason : Int32) (r_t_caseFirst : Nat → Int32) (r_t_finds : Nat → Int32) (r_t_label : Nat → Int32) (r_t_page : Nat → Int32) (r_t_reason : Nat → Int32) (p1 : Int32) (p2 : Int32) (p3 : Int32) : Option (Int32 × Int32 × Int32 × Int32 × (Nat → Int32) × (Nat → Int32) × (Nat → Int32) × (Nat → Int32)) :=
  pn_bd1 (f_X7_isThere r_t_page p1 p2) fun ru1 =>
  if ¬ ru1 = 0 then
  pn_bd1 (f_X7_in p3.toInt64 (0 : Int64) (2 : Int64)) fun ru3 =>
  if ¬ ru3 = 0 then
  pn_bd6 (f_X7_findAll N v_t_cases v_t_lastReason r_t_caseFirst r_t_finds r_t_label r_t_reason r_t_page) fun v_t_cases_u5 v_t_lastReason_u5 r_t_caseFirst_u5 r_t_finds_u5 r_t_label_u5 r_t_reason_u5 =>
  pn_nm (((4 : Int32) * p1) + p2) fun z6 =>
  if ¬ p3 = 0 then
  if ¬ p3 = (1 : Int32) then
  pn_bd1 (f_X7_pinned N r_t_caseFirst_u5 r_t_finds_u5 r_t_page z6) fun ru9 =>
  some (ru9, (0 : Int32), v_t_cases_u5, v_t_lastReason_u5, r_t_caseFirst_u5, r_t_finds_u5, r_t_label_u5, r_t_reason_u5)
  else
  pn_rd 32 r_t_reason_u5 z6 fun w10 =>
  some (w10, (0 : Int32), v_t_cases_u5, v_t_lastReason_u5, r_t_caseFirst_u5, r_t_finds_u5, r_t_label_u5, r_t_reason_u5)
  else
  pn_rd 32 r_t_finds_u5 z6 fun w12 =>
  some (w12, (0 : Int32), v_t_cases_u5, v_t_lastReason_u5, r_t_caseFirst_u5, r_t_finds_u5, r_t_label_u5, r_t_reason_u5)
  else
  some ((-2 : Int32), (0 : Int32), v_t_cases, v_t_lastReason, r_t_caseFirst, r_t_finds, r_t_label, r_t_reason)
  else
  some ((-1 : Int32), (0 : Int32), v_t_cases, v_t_lastReason, r_t_caseFirst, r_t_finds, r_t_label, r_t_reason)
set_option maxHeartbeats 4000000 in
set_option maxRecDepth 100000 in
theorem c_X7_found (l : Launch) (D : va_G) (cI cJ cZ : ClassId) (a_t a_t_text a_t_readPage a_t_page a_t_trial a_t_work a_t_book a_t_kept a_t_isKept a_t_seenWhat a_t_seenV a_t_seenIs a_t_label a_t_finds a_t_reason a_t_caseFirst a_t_brief a_t_printed a_t_renamed a_t_worth : Nat) (sz : Nat) (v_t_textSize : Int32) (v_t_place : Int32) (v_t_doings : Int32) (v_t_seen : Int32) (v_t_seed : Int64) (v_t_printedSize : Int32) (N : Nat) (v_t_thrown : Int32) (v_t_cases : Int32) (v_t_lastReason : Int32) (r_t_caseFirst : Nat → Int32) (r_t_finds : Nat → Int32) (r_t_label : Nat → Int32) (r_t_page : Nat → Int32) (r_t_reason : Nat → Int32) (p1 : Int32) (p2 : Int32) (p3 : Int32) (rR : Int32) (o_t_thrown : Int32) (o_t_cases : Int32) (o_t_lastReason : Int32) (o_t_caseFirst : Nat → Int32) (o_t_finds : Nat → Int32) (o_t_label : Nat → Int32) (o_t_reason : Nat → Int32) (hf : f_X7_found N v_t_thrown v_t_cases v_t_lastReason r_t_caseFirst r_t_finds r_t_label r_t_page r_t_reason p1 p2 p3 = some (rR, o_t_thrown, o_t_cases, o_t_lastReason, o_t_caseFirst, o_t_finds, o_t_label, o_t_reason)) : Met l yX7_found wsX7_found { frames := 7, cells := 0, slots := 0, locals := 168 } (pn_Pc D cI cJ cZ [.ref a_t, .int p1, .int p2, .int p3] [(a_t, .inr (6, [.int v_t_thrown, .ref a_t_text, .int v_t_textSize, .int v_t_place, .ref a_t_readPage, .ref a_t_page, .ref a_t_trial, .ref a_t_work, .ref a_t_book, .int v_t_doings, .ref a_t_kept, .ref a_t_isKept, .int v_t_seen, .ref a_t_seenWhat, .ref a_t_seenV, .ref a_t_seenIs, .long v_t_seed, .ref a_t_label, .ref a_t_finds, .ref a_t_reason, .ref a_t_caseFirst, .int v_t_cases, .ref a_t_brief, .ref a_t_printed, .int v_t_printedSize, .ref a_t_renamed, .ref a_t_worth, .int v_t_lastReason])), (a_t_caseFirst, .inl (cI, 32, .inl r_t_caseFirst)), (a_t_finds, .inl (cI, 32, .inl r_t_finds)), (a_t_label, .inl (cI, 32, .inl r_t_label)), (a_t_page, .inl (cI, 265, .inl r_t_page)), (a_t_reason, .inl (cI, 32, .inl r_t_reason))] sz) (pn_Qi D rR [(a_t, .inr (6, [.int o_t_thrown, .ref a_t_text, .int v_t_textSize, .int v_t_place, .ref a_t_readPage, .ref a_t_page, .ref a_t_trial, .ref a_t_work, .ref a_t_book, .int v_t_doings, .ref a_t_kept, .ref a_t_isKept, .int v_t_seen, .ref a_t_seenWhat, .ref a_t_seenV, .ref a_t_seenIs, .long v_t_seed, .ref a_t_label, .ref a_t_finds, .ref a_t_reason, .ref a_t_caseFirst, .int o_t_cases, .ref a_t_brief, .ref a_t_printed, .int v_t_printedSize, .ref a_t_renamed, .ref a_t_worth, .int o_t_lastReason])), (a_t_caseFirst, .inl (cI, 32, .inl o_t_caseFirst)), (a_t_finds, .inl (cI, 32, .inl o_t_finds)), (a_t_label, .inl (cI, 32, .inl o_t_label)), (a_t_page, .inl (cI, 265, .inl r_t_page)), (a_t_reason, .inl (cI, 32, .inl o_t_reason))] (va_A [(a_t, .inr (6, [.int v_t_thrown, .ref a_t_text, .int v_t_textSize, .int v_t_place, .ref a_t_readPage, .ref a_t_page, .ref a_t_trial, .ref a_t_work, .ref a_t_book, .int v_t_doings, .ref a_t_kept, .ref a_t_isKept, .int v_t_seen, .ref a_t_seenWhat, .ref a_t_seenV, .ref a_t_seenIs, .long v_t_seed, .ref a_t_label, .ref a_t_finds, .ref a_t_reason, .ref a_t_caseFirst, .int v_t_cases, .ref a_t_brief, .ref a_t_printed, .int v_t_printedSize, .ref a_t_renamed, .ref a_t_worth, .int v_t_lastReason])), (a_t_caseFirst, .inl (cI, 32, .inl r_t_caseFirst)), (a_t_finds, .inl (cI, 32, .inl r_t_finds)), (a_t_label, .inl (cI, 32, .inl r_t_label)), (a_t_page, .inl (cI, 265, .inl r_t_page)), (a_t_reason, .inl (cI, 32, .inl r_t_reason))] sz)) 0 0 (va_A [(a_t, .inr (6, [.int v_t_thrown, .ref a_t_text, .int v_t_textSize, .int v_t_place, .ref a_t_readPage, .ref a_t_page, .ref a_t_trial, .ref a_t_work, .ref a_t_book, .int v_t_doings, .ref a_t_kept, .ref a_t_isKept, .int v_t_seen, .ref a_t_seenWhat, .ref a_t_seenV, .ref a_t_seenIs, .long v_t_seed, .ref a_t_label, .ref a_t_finds, .ref a_t_reason, .ref a_t_caseFirst, .int v_t_cases, .ref a_t_brief, .ref a_t_printed, .int v_t_printedSize, .ref a_t_renamed, .ref a_t_worth, .int v_t_lastReason])), (a_t_caseFirst, .inl (cI, 32, .inl r_t_caseFirst)), (a_t_finds, .inl (cI, 32, .inl r_t_finds)), (a_t_label, .inl (cI, 32, .inl r_t_label)), (a_t_page, .inl (cI, 265, .inl r_t_page)), (a_t_reason, .inl (cI, 32, .inl r_t_reason))] sz) := by
  refine pn_entry (cc := cX7_found) (maxL := 5) (ret := (some .int)) (Qf := pn_Qi D rR [(a_t, .inr (6, [.int o_t_thrown, .ref a_t_text, .int v_t_textSize, .int v_t_place, .ref a_t_readPage, .ref a_t_page, .ref a_t_trial, .ref a_t_work, .ref a_t_book, .int v_t_doings, .ref a_t_kept, .ref a_t_isKept, .int v_t_seen, .ref a_t_seenWhat, .ref a_t_seenV, .ref a_t_seenIs, .long v_t_seed, .ref a_t_label, .ref a_t_finds, .ref a_t_reason, .ref a_t_caseFirst, .int o_t_cases, .ref a_t_brief, .ref a_t_printed, .int v_t_printedSize, .ref a_t_renamed, .ref a_t_worth, .int o_t_lastReason])), (a_t_caseFirst, .inl (cI, 32, .inl o_t_caseFirst)), (a_t_finds, .inl (cI, 32, .inl o_t_finds)), (a_t_label, .inl (cI, 32, .inl o_t_label)), (a_t_page, .inl (cI, 265, .inl r_t_page)), (a_t_reason, .inl (cI, 32, .inl o_t_reason))]) (by decide) rfl (Nat.le_of_ble_eq_true rfl) ?_
  intro p e s m args below meth c A ls H locs Qm hQ hx hb hr hlocks hml hown hts hK hP hD hA hS hl
  have hl : lv_has ls 5 [(0, .ref a_t), (1, .int p1), (2, .int p2), (3, .int p3)] := hl
  have hinX7 : ∀ w ∈ wsX70, w ∈ wsX7_found := by decide +kernel
  have fl_16 := hts (.fieldLink RX7 16 "PointingNotesModel" "page" "[I") (by decide +kernel)
  have fl_47 := hts (.fieldLink RX7 47 "PointingNotesModel" "finds" "[I") (by decide +kernel)
  have fl_50 := hts (.fieldLink RX7 50 "PointingNotesModel" "reason" "[I") (by decide +kernel)
  have fl_68 := hts (.fieldLink RX7 68 "PointingNotesModel" "thrown" "I") (by decide +kernel)
  have kl_134 := hts (.constantLong RX7 134 (2)) (by decide +kernel)
  rw [f_X7_found] at hf
  refine lv_aload_n hx hb dX7_found_0 rfl (lv_at hl 0 rfl) ?_
  refine lv_iconst (v := (0)) hx hb dX7_found_1 (by decide) ?_
  refine va_put (D := D) (ci := 6) (v := .int (0 : Int32)) (ty := .int) (C := RX7) (T := TX7) (N := 28) hx hb hts hinX7 tyX7 tyX7_ok nmX7 hown hK.1 hP (hD.addr rfl) hS 0 rfl rfl 0 (by decide) fl_68 (fun _ h9 => h9) rfl (by decide +kernel) rfl rfl (Nat.le_of_ble_eq_true rfl) dX7_found_2 (fun H locs (hP : va_P D vwCl [(a_t, .inr (6, [.int ((0 : Int32)), .ref a_t_text, .int v_t_textSize, .int v_t_place, .ref a_t_readPage, .ref a_t_page, .ref a_t_trial, .ref a_t_work, .ref a_t_book, .int v_t_doings, .ref a_t_kept, .ref a_t_isKept, .int v_t_seen, .ref a_t_seenWhat, .ref a_t_seenV, .ref a_t_seenIs, .long v_t_seed, .ref a_t_label, .ref a_t_finds, .ref a_t_reason, .ref a_t_caseFirst, .int v_t_cases, .ref a_t_brief, .ref a_t_printed, .int v_t_printedSize, .ref a_t_renamed, .ref a_t_worth, .int v_t_lastReason])), (a_t_caseFirst, .inl (cI, 32, .inl r_t_caseFirst)), (a_t_finds, .inl (cI, 32, .inl r_t_finds)), (a_t_label, .inl (cI, 32, .inl r_t_label)), (a_t_page, .inl (cI, 265, .inl r_t_page)), (a_t_reason, .inl (cI, 32, .inl r_t_reason))] H) _ hS => ?_)
  refine lv_aload_n hx hb dX7_found_5 rfl (lv_at hl 0 rfl) ?_
  refine va_get (D := D) (ci := 6) (v := .ref a_t_page) (C := RX7) (T := TX7) (N := 28) hx hb hts hinX7 hown hK.1 hP 0 rfl rfl 5 (by decide) fl_16 (fun _ h9 => h9) rfl dX7_found_6 ?_
  refine lv_iload_n hx hb dX7_found_9 rfl (lv_at hl 1 rfl) ?_
  refine lv_iload_n hx hb dX7_found_10 rfl (lv_at hl 2 rfl) ?_
  obtain ⟨ru1, hu1, hf⟩ := pn_bd1_at hf
  refine pn_calli [4] (va_runS (As := [.ref a_t_page, .int p1, .int p2]) (rest := []) ⟨hx, hb, hml, hown, hts⟩ (c_X7_isThere l D cI cJ cZ a_t_page H.size r_t_page p1 p2 ru1 hu1) (va_cwS 3 hts gX7_found_X7_isThere rfl rfl rfl hdX7_isThere ⟨Nat.le_of_ble_eq_true rfl, Nat.le_of_ble_eq_true rfl⟩) (pn_preS [4] hP (hD.addr rfl) hK rfl rfl) rfl rfl hl.1 rfl (lv_room (Nat.le_of_ble_eq_true rfl)) dX7_found_11 ⟨Nat.zero_le _, Nat.zero_le _⟩) hP (hD.addr rfl) hS hA rfl rfl rfl (fun H locs (hP : va_P D vwCl [(a_t, .inr (6, [.int ((0 : Int32)), .ref a_t_text, .int v_t_textSize, .int v_t_place, .ref a_t_readPage, .ref a_t_page, .ref a_t_trial, .ref a_t_work, .ref a_t_book, .int v_t_doings, .ref a_t_kept, .ref a_t_isKept, .int v_t_seen, .ref a_t_seenWhat, .ref a_t_seenV, .ref a_t_seenIs, .long v_t_seed, .ref a_t_label, .ref a_t_finds, .ref a_t_reason, .ref a_t_caseFirst, .int v_t_cases, .ref a_t_brief, .ref a_t_printed, .int v_t_printedSize, .ref a_t_renamed, .ref a_t_worth, .int v_t_lastReason])), (a_t_caseFirst, .inl (cI, 32, .inl r_t_caseFirst)), (a_t_finds, .inl (cI, 32, .inl r_t_finds)), (a_t_label, .inl (cI, 32, .inl r_t_label)), (a_t_page, .inl (cI, 265, .inl r_t_page)), (a_t_reason, .inl (cI, 32, .inl r_t_reason))] H) _ hS => ?_)
  refine lv_if_ne (tgt := 19) hx hb dX7_found_14 (by decide) (fun c2 => ?_) (fun c2 => ?_)
  · have hf := pn_ifp c2 hf
    refine lv_iload_n hx hb dX7_found_19 rfl (lv_at hl 3 rfl) ?_
    refine lv_i2l hx hb dX7_found_20 rfl ?_
    refine lv_lconst (v := 0) hx hb dX7_found_21 (by decide) ?_
    refine lv_ldc2 hx hb hown kl_134 dX7_found_22 ?_
    obtain ⟨ru3, hu3, hf⟩ := pn_bd1_at hf
    refine pn_calli [] (va_runS (As := [.long p3.toInt64, .long (0 : Int64), .long (2 : Int64)]) (rest := []) ⟨hx, hb, hml, hown, hts⟩ (c_X7_in l D cI cJ cZ H.size p3.toInt64 (0 : Int64) (2 : Int64) ru3 hu3) (va_cwS 3 hts gX7_found_X7_in rfl rfl rfl hdX7_in ⟨Nat.le_of_ble_eq_true rfl, Nat.le_of_ble_eq_true rfl⟩) (pn_preS [] hP (hD.addr rfl) hK rfl rfl) rfl rfl hl.1 rfl (lv_room (Nat.le_of_ble_eq_true rfl)) dX7_found_25 ⟨Nat.zero_le _, Nat.zero_le _⟩) hP (hD.addr rfl) hS hA rfl rfl rfl (fun H locs (hP : va_P D vwCl [(a_t, .inr (6, [.int ((0 : Int32)), .ref a_t_text, .int v_t_textSize, .int v_t_place, .ref a_t_readPage, .ref a_t_page, .ref a_t_trial, .ref a_t_work, .ref a_t_book, .int v_t_doings, .ref a_t_kept, .ref a_t_isKept, .int v_t_seen, .ref a_t_seenWhat, .ref a_t_seenV, .ref a_t_seenIs, .long v_t_seed, .ref a_t_label, .ref a_t_finds, .ref a_t_reason, .ref a_t_caseFirst, .int v_t_cases, .ref a_t_brief, .ref a_t_printed, .int v_t_printedSize, .ref a_t_renamed, .ref a_t_worth, .int v_t_lastReason])), (a_t_caseFirst, .inl (cI, 32, .inl r_t_caseFirst)), (a_t_finds, .inl (cI, 32, .inl r_t_finds)), (a_t_label, .inl (cI, 32, .inl r_t_label)), (a_t_page, .inl (cI, 265, .inl r_t_page)), (a_t_reason, .inl (cI, 32, .inl r_t_reason))] H) _ hS => ?_)
    refine lv_if_ne (tgt := 34) hx hb dX7_found_28 (by decide) (fun c4 => ?_) (fun c4 => ?_)
    · have hf := pn_ifp c4 hf
      refine lv_aload_n hx hb dX7_found_34 rfl (lv_at hl 0 rfl) ?_
      refine lv_aload_n hx hb dX7_found_35 rfl (lv_at hl 0 rfl) ?_
      refine va_get (D := D) (ci := 6) (v := .ref a_t_page) (C := RX7) (T := TX7) (N := 28) hx hb hts hinX7 hown hK.1 hP 0 rfl rfl 5 (by decide) fl_16 (fun _ h9 => h9) rfl dX7_found_36 ?_
      obtain ⟨v_t_cases_u5, v_t_lastReason_u5, r_t_caseFirst_u5, r_t_finds_u5, r_t_label_u5, r_t_reason_u5, hu5, hf⟩ := pn_bd6_at hf
      refine pn_callv [0, 1, 2, 3, 5, 4] (va_runV (As := [.ref a_t_page]) (rest := []) ⟨hx, hb, hml, hown, hts⟩ (c_X7_findAll l D cI cJ cZ a_t a_t_text a_t_readPage a_t_page a_t_trial a_t_work a_t_book a_t_kept a_t_isKept a_t_seenWhat a_t_seenV a_t_seenIs a_t_label a_t_finds a_t_reason a_t_caseFirst a_t_brief a_t_printed a_t_renamed a_t_worth a_t_page H.size (0 : Int32) v_t_textSize v_t_place v_t_doings v_t_seen v_t_seed v_t_printedSize N v_t_cases v_t_lastReason r_t_caseFirst r_t_finds r_t_label r_t_reason r_t_page v_t_cases_u5 v_t_lastReason_u5 r_t_caseFirst_u5 r_t_finds_u5 r_t_label_u5 r_t_reason_u5 hu5) (cwV 1 hts gX7_found_X7_findAll rfl rfl rfl hdX7_findAll ⟨Nat.le_of_ble_eq_true rfl, Nat.le_of_ble_eq_true rfl⟩) (pn_preV [0, 1, 2, 3, 5, 4] hP (hD.addr rfl) hK rfl rfl (q0 := 0) (ci := 6) rfl rfl) rfl rfl hl.1 rfl (lv_room (Nat.le_of_ble_eq_true rfl)) dX7_found_39 ⟨Nat.zero_le _, Nat.zero_le _⟩) hP (hD.addr rfl) hS hA rfl rfl rfl (fun H locs (hP : va_P D vwCl [(a_t, .inr (6, [.int ((0 : Int32)), .ref a_t_text, .int v_t_textSize, .int v_t_place, .ref a_t_readPage, .ref a_t_page, .ref a_t_trial, .ref a_t_work, .ref a_t_book, .int v_t_doings, .ref a_t_kept, .ref a_t_isKept, .int v_t_seen, .ref a_t_seenWhat, .ref a_t_seenV, .ref a_t_seenIs, .long v_t_seed, .ref a_t_label, .ref a_t_finds, .ref a_t_reason, .ref a_t_caseFirst, .int v_t_cases_u5, .ref a_t_brief, .ref a_t_printed, .int v_t_printedSize, .ref a_t_renamed, .ref a_t_worth, .int v_t_lastReason_u5])), (a_t_caseFirst, .inl (cI, 32, .inl r_t_caseFirst_u5)), (a_t_finds, .inl (cI, 32, .inl r_t_finds_u5)), (a_t_label, .inl (cI, 32, .inl r_t_label_u5)), (a_t_page, .inl (cI, 265, .inl r_t_page)), (a_t_reason, .inl (cI, 32, .inl r_t_reason_u5))] H) _ hS => ?_)
      refine lv_iconst (v := (4)) hx hb dX7_found_42 (by decide) ?_
      refine lv_iload_n hx hb dX7_found_43 rfl (lv_at hl 1 rfl) ?_
      refine lv_imul hx hb dX7_found_44 ?_
      refine lv_iload_n hx hb dX7_found_45 rfl (lv_at hl 2 rfl) ?_
      refine lv_iadd hx hb dX7_found_46 ?_
      refine lv_topi (fun z6 ez6 => ?_)
      have hf := pn_nm_at ez6 hf
      refine lv_istore (lv' := [(4, .int z6), (0, .ref a_t), (1, .int p1), (2, .int p2), (3, .int p3)]) hx hb dX7_found_47 hl (by decide) rfl (fun ls hl => ?_)
      refine lv_iload_n hx hb dX7_found_49 rfl (lv_at hl 4 rfl) ?_
      refine lv_if_ne (tgt := 63) hx hb dX7_found_50 (by decide) (fun c7 => ?_) (fun c7 => ?_)
      · have hf := pn_ifp c7 hf
        refine lv_iload_n hx hb dX7_found_63 rfl (lv_at hl 4 rfl) ?_
        refine lv_iconst (v := (1)) hx hb dX7_found_64 (by decide) ?_
        refine lv_icmp_ne (tgt := 78) hx hb dX7_found_65 (by decide) (fun c8 => ?_) (fun c8 => ?_)
        · have hf := pn_ifp c8 hf
          refine lv_aload_n hx hb dX7_found_78 rfl (lv_at hl 1 rfl) ?_
          refine lv_aload_n hx hb dX7_found_79 rfl (lv_at hl 1 rfl) ?_
          refine va_get (D := D) (ci := 6) (v := .ref a_t_page) (C := RX7) (T := TX7) (N := 28) hx hb hts hinX7 hown hK.1 hP 0 rfl rfl 5 (by decide) fl_16 (fun _ h9 => h9) rfl dX7_found_80 ?_
          refine lv_iload hx hb dX7_found_83 (lv_at hl 0 rfl) ?_
          obtain ⟨ru9, hu9, hf⟩ := pn_bd1_at hf
          refine pn_calli [0, 1, 2, 4] (va_runV (As := [.ref a_t_page, .int z6]) (rest := []) ⟨hx, hb, hml, hown, hts⟩ (c_X7_pinned l D cI cJ cZ a_t a_t_text a_t_readPage a_t_page a_t_trial a_t_work a_t_book a_t_kept a_t_isKept a_t_seenWhat a_t_seenV a_t_seenIs a_t_label a_t_finds a_t_reason a_t_caseFirst a_t_brief a_t_printed a_t_renamed a_t_worth a_t_page H.size (0 : Int32) v_t_textSize v_t_place v_t_doings v_t_seen v_t_seed v_t_cases_u5 v_t_printedSize v_t_lastReason_u5 N r_t_caseFirst_u5 r_t_finds_u5 r_t_page z6 ru9 hu9) (cwV 2 hts gX7_found_X7_pinned rfl rfl rfl hdX7_pinned ⟨Nat.le_of_ble_eq_true rfl, Nat.le_of_ble_eq_true rfl⟩) (pn_preV [0, 1, 2, 4] hP (hD.addr rfl) hK rfl rfl (q0 := 0) (ci := 6) rfl rfl) rfl rfl hl.1 rfl (lv_room (Nat.le_of_ble_eq_true rfl)) dX7_found_85 ⟨Nat.zero_le _, Nat.zero_le _⟩) hP (hD.addr rfl) hS hA rfl rfl rfl (fun H locs (hP : va_P D vwCl [(a_t, .inr (6, [.int ((0 : Int32)), .ref a_t_text, .int v_t_textSize, .int v_t_place, .ref a_t_readPage, .ref a_t_page, .ref a_t_trial, .ref a_t_work, .ref a_t_book, .int v_t_doings, .ref a_t_kept, .ref a_t_isKept, .int v_t_seen, .ref a_t_seenWhat, .ref a_t_seenV, .ref a_t_seenIs, .long v_t_seed, .ref a_t_label, .ref a_t_finds, .ref a_t_reason, .ref a_t_caseFirst, .int v_t_cases_u5, .ref a_t_brief, .ref a_t_printed, .int v_t_printedSize, .ref a_t_renamed, .ref a_t_worth, .int v_t_lastReason_u5])), (a_t_caseFirst, .inl (cI, 32, .inl r_t_caseFirst_u5)), (a_t_finds, .inl (cI, 32, .inl r_t_finds_u5)), (a_t_label, .inl (cI, 32, .inl r_t_label_u5)), (a_t_page, .inl (cI, 265, .inl r_t_page)), (a_t_reason, .inl (cI, 32, .inl r_t_reason_u5))] H) _ hS => ?_)
          cases hf
          rw [hQ]
          exact pn_reti hx hb hr hlocks hP hS rfl dX7_found_88
        · have hf := pn_ifq c8 hf
          refine lv_aload_n hx hb dX7_found_68 rfl (lv_at hl 1 rfl) ?_
          refine va_get (D := D) (ci := 6) (v := .ref a_t_reason) (C := RX7) (T := TX7) (N := 28) hx hb hts hinX7 hown hK.1 hP 0 rfl rfl 19 (by decide) fl_50 (fun _ h9 => h9) rfl dX7_found_69 ?_
          refine lv_iload hx hb dX7_found_72 (lv_at hl 0 rfl) ?_
          obtain ⟨hi11, w10, ew10, hf⟩ := pn_rd_at hf
          refine pn_ldI hx hb hK.1 hP 5 0 rfl rfl hi11 ew10 dX7_found_74 ?_
          refine lv_goto (tgt := 88) hx hb dX7_found_75 (by decide) ?_
          cases hf
          rw [hQ]
          exact pn_reti hx hb hr hlocks hP hS rfl dX7_found_88
      · have hf := pn_ifq c7 hf
        refine lv_aload_n hx hb dX7_found_53 rfl (lv_at hl 1 rfl) ?_
        refine va_get (D := D) (ci := 6) (v := .ref a_t_finds) (C := RX7) (T := TX7) (N := 28) hx hb hts hinX7 hown hK.1 hP 0 rfl rfl 18 (by decide) fl_47 (fun _ h9 => h9) rfl dX7_found_54 ?_
        refine lv_iload hx hb dX7_found_57 (lv_at hl 0 rfl) ?_
        obtain ⟨hi13, w12, ew12, hf⟩ := pn_rd_at hf
        refine pn_ldI hx hb hK.1 hP 2 0 rfl rfl hi13 ew12 dX7_found_59 ?_
        refine lv_goto (tgt := 88) hx hb dX7_found_60 (by decide) ?_
        cases hf
        rw [hQ]
        exact pn_reti hx hb hr hlocks hP hS rfl dX7_found_88
    · have hf := pn_ifq c4 hf
      refine lv_bipush (v := (-2)) hx hb dX7_found_31 (by decide) ?_
      cases hf
      rw [hQ]
      exact pn_reti hx hb hr hlocks hP hS rfl dX7_found_33
  · have hf := pn_ifq c2 hf
    refine lv_iconst (v := (-1)) hx hb dX7_found_17 (by decide) ?_
    cases hf
    rw [hQ]
    exact pn_reti hx hb hr hlocks hP hS rfl dX7_found_18
