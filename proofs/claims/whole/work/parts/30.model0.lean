theorem hdX7_in : yX7_in.cls ≠ "java/lang/invoke/MethodHandle" ∧ yX7_in.cls ≠ "java/lang/invoke/VarHandle" ∧ (parseMethodDescriptor yX7_in.desc).map (fun d => d.parameters.length) = some 3 := by decide +kernel
theorem hdX7_has : yX7_has.cls ≠ "java/lang/invoke/MethodHandle" ∧ yX7_has.cls ≠ "java/lang/invoke/VarHandle" ∧ (parseMethodDescriptor yX7_has.desc).map (fun d => d.parameters.length) = some 2 := by decide +kernel
theorem hdX7_ones : yX7_ones.cls ≠ "java/lang/invoke/MethodHandle" ∧ yX7_ones.cls ≠ "java/lang/invoke/VarHandle" ∧ (parseMethodDescriptor yX7_ones.desc).map (fun d => d.parameters.length) = some 1 := by decide +kernel
theorem hdX7_power : yX7_power.cls ≠ "java/lang/invoke/MethodHandle" ∧ yX7_power.cls ≠ "java/lang/invoke/VarHandle" ∧ (parseMethodDescriptor yX7_power.desc).map (fun d => d.parameters.length) = some 2 := by decide +kernel
theorem hdX7_lay : yX7_lay.cls ≠ "java/lang/invoke/MethodHandle" ∧ yX7_lay.cls ≠ "java/lang/invoke/VarHandle" ∧ (parseMethodDescriptor yX7_lay.desc).map (fun d => d.parameters.length) = some 2 := by decide +kernel
theorem hdX7_ref : yX7_ref.cls ≠ "java/lang/invoke/MethodHandle" ∧ yX7_ref.cls ≠ "java/lang/invoke/VarHandle" ∧ (parseMethodDescriptor yX7_ref.desc).map (fun d => d.parameters.length) = some 3 := by decide +kernel
theorem hdX7_isThere : yX7_isThere.cls ≠ "java/lang/invoke/MethodHandle" ∧ yX7_isThere.cls ≠ "java/lang/invoke/VarHandle" ∧ (parseMethodDescriptor yX7_isThere.desc).map (fun d => d.parameters.length) = some 3 := by decide +kernel
theorem hdX7_isLeft : yX7_isLeft.cls ≠ "java/lang/invoke/MethodHandle" ∧ yX7_isLeft.cls ≠ "java/lang/invoke/VarHandle" ∧ (parseMethodDescriptor yX7_isLeft.desc).map (fun d => d.parameters.length) = some 3 := by decide +kernel
theorem hdX7_allNotes : yX7_allNotes.cls ≠ "java/lang/invoke/MethodHandle" ∧ yX7_allNotes.cls ≠ "java/lang/invoke/VarHandle" ∧ (parseMethodDescriptor yX7_allNotes.desc).map (fun d => d.parameters.length) = some 1 := by decide +kernel
theorem hdX7_write : yX7_write.cls = RX7 ∧ yX7_write.cls ≠ "java/lang/invoke/MethodHandle" ∧ yX7_write.cls ≠ "java/lang/invoke/VarHandle" ∧ (parseMethodDescriptor yX7_write.desc).map (fun d => d.parameters.length) = some 1 := by decide +kernel
theorem hdX7_wipe : yX7_wipe.cls = RX7 ∧ yX7_wipe.cls ≠ "java/lang/invoke/MethodHandle" ∧ yX7_wipe.cls ≠ "java/lang/invoke/VarHandle" ∧ (parseMethodDescriptor yX7_wipe.desc).map (fun d => d.parameters.length) = some 0 := by decide +kernel
theorem hdX7_next : yX7_next.cls = RX7 ∧ yX7_next.cls ≠ "java/lang/invoke/MethodHandle" ∧ yX7_next.cls ≠ "java/lang/invoke/VarHandle" ∧ (parseMethodDescriptor yX7_next.desc).map (fun d => d.parameters.length) = some 0 := by decide +kernel
theorem hdX7_take : yX7_take.cls = RX7 ∧ yX7_take.cls ≠ "java/lang/invoke/MethodHandle" ∧ yX7_take.cls ≠ "java/lang/invoke/VarHandle" ∧ (parseMethodDescriptor yX7_take.desc).map (fun d => d.parameters.length) = some 3 := by decide +kernel
theorem hdX7_takePage : yX7_takePage.cls = RX7 ∧ yX7_takePage.cls ≠ "java/lang/invoke/MethodHandle" ∧ yX7_takePage.cls ≠ "java/lang/invoke/VarHandle" ∧ (parseMethodDescriptor yX7_takePage.desc).map (fun d => d.parameters.length) = some 0 := by decide +kernel
theorem hdX7_takeReport : yX7_takeReport.cls = RX7 ∧ yX7_takeReport.cls ≠ "java/lang/invoke/MethodHandle" ∧ yX7_takeReport.cls ≠ "java/lang/invoke/VarHandle" ∧ (parseMethodDescriptor yX7_takeReport.desc).map (fun d => d.parameters.length) = some 1 := by decide +kernel
theorem hdX7_readSpelled : yX7_readSpelled.cls = RX7 ∧ yX7_readSpelled.cls ≠ "java/lang/invoke/MethodHandle" ∧ yX7_readSpelled.cls ≠ "java/lang/invoke/VarHandle" ∧ (parseMethodDescriptor yX7_readSpelled.desc).map (fun d => d.parameters.length) = some 1 := by decide +kernel
theorem hdX7_readAbove : yX7_readAbove.cls = RX7 ∧ yX7_readAbove.cls ≠ "java/lang/invoke/MethodHandle" ∧ yX7_readAbove.cls ≠ "java/lang/invoke/VarHandle" ∧ (parseMethodDescriptor yX7_readAbove.desc).map (fun d => d.parameters.length) = some 1 := by decide +kernel
theorem hdX7_readName : yX7_readName.cls = RX7 ∧ yX7_readName.cls ≠ "java/lang/invoke/MethodHandle" ∧ yX7_readName.cls ≠ "java/lang/invoke/VarHandle" ∧ (parseMethodDescriptor yX7_readName.desc).map (fun d => d.parameters.length) = some 1 := by decide +kernel
theorem hdX7_readReference : yX7_readReference.cls = RX7 ∧ yX7_readReference.cls ≠ "java/lang/invoke/MethodHandle" ∧ yX7_readReference.cls ≠ "java/lang/invoke/VarHandle" ∧ (parseMethodDescriptor yX7_readReference.desc).map (fun d => d.parameters.length) = some 1 := by decide +kernel
def f_X7_in (p0 : Int64) (p2 : Int64) (p4 : Int64) : Option (Int32) :=
  if (lg_cmp p0 p2) < 0 then
  some (0 : Int32)
  else
  if 0 < (lg_cmp p0 p4) then
  some (0 : Int32)
  else
  some (1 : Int32)
set_option maxHeartbeats 4000000 in
set_option maxRecDepth 100000 in
theorem c_X7_in (l : Launch) (D : va_G) (cI cJ cZ : ClassId) (sz : Nat) (p0 : Int64) (p2 : Int64) (p4 : Int64) (rR : Int32) (hf : f_X7_in p0 p2 p4 = some rR) : Met l yX7_in wsX7_in { frames := 0, cells := 0, slots := 0, locals := 0 } (pn_Pc D cI cJ cZ [.long p0, .long p2, .long p4] [] sz) (pn_Qi D rR [] (va_A [] sz)) 0 0 (va_A [] sz) := by
  refine pn_entry (cc := cX7_in) (maxL := 6) (ret := (some .boolean)) (Qf := pn_Qi D rR []) (by decide) rfl (Nat.le_of_ble_eq_true rfl) ?_
  intro p e s m args below meth c A ls H locs Qm hQ hx hb hr hlocks hml hown hts hK hP hD hA hS hl
  have hl : lv_has ls 6 [(0, .long p0), (2, .long p2), (4, .long p4)] := hl
  rw [f_X7_in] at hf
  refine lv_lload_n hx hb dX7_in_0 rfl (lv_at hl 0 rfl) ?_
  refine lv_lload_n hx hb dX7_in_1 rfl (lv_at hl 1 rfl) ?_
  refine W.lcmp hx hb dX7_in_2 ?_
  refine lv_if_lt (tgt := 17) hx hb dX7_in_3 (by decide) (fun c1 => ?_) (fun c1 => ?_)
  · have hf := pn_ifp c1 hf
    refine lv_iconst (v := (0)) hx hb dX7_in_17 (by decide) ?_
    cases hf
    rw [hQ]
    exact pn_retz hx hb hr hlocks hP hS rfl rfl dX7_in_18
  · have hf := pn_ifn c1 hf
    refine lv_lload_n hx hb dX7_in_6 rfl (lv_at hl 0 rfl) ?_
    refine lv_lload hx hb dX7_in_7 (lv_at hl 2 rfl) ?_
    refine W.lcmp hx hb dX7_in_9 ?_
    refine lv_if_gt (tgt := 17) hx hb dX7_in_10 (by decide) (fun c2 => ?_) (fun c2 => ?_)
    · have hf := pn_ifp c2 hf
      refine lv_iconst (v := (0)) hx hb dX7_in_17 (by decide) ?_
      cases hf
      rw [hQ]
      exact pn_retz hx hb hr hlocks hP hS rfl rfl dX7_in_18
    · have hf := pn_ifn c2 hf
      refine lv_iconst (v := (1)) hx hb dX7_in_13 (by decide) ?_
      refine lv_goto (tgt := 18) hx hb dX7_in_14 (by decide) ?_
      cases hf
      rw [hQ]
      exact pn_retz hx hb hr hlocks hP hS rfl rfl dX7_in_18
def f_X7_has (p0 : Int32) (p1 : Int32) : Option (Int32) :=
  if ¬ ((p0 >>> (p1 &&& 31)) &&& (1 : Int32)) = (1 : Int32) then
  some (0 : Int32)
  else
  some (1 : Int32)
set_option maxHeartbeats 4000000 in
set_option maxRecDepth 100000 in
theorem c_X7_has (l : Launch) (D : va_G) (cI cJ cZ : ClassId) (sz : Nat) (p0 : Int32) (p1 : Int32) (rR : Int32) (hf : f_X7_has p0 p1 = some rR) : Met l yX7_has wsX7_has { frames := 0, cells := 0, slots := 0, locals := 0 } (pn_Pc D cI cJ cZ [.int p0, .int p1] [] sz) (pn_Qi D rR [] (va_A [] sz)) 0 0 (va_A [] sz) := by
  refine pn_entry (cc := cX7_has) (maxL := 2) (ret := (some .boolean)) (Qf := pn_Qi D rR []) (by decide) rfl (Nat.le_of_ble_eq_true rfl) ?_
  intro p e s m args below meth c A ls H locs Qm hQ hx hb hr hlocks hml hown hts hK hP hD hA hS hl
  have hl : lv_has ls 2 [(0, .int p0), (1, .int p1)] := hl
  rw [f_X7_has] at hf
  refine lv_iload_n hx hb dX7_has_0 rfl (lv_at hl 0 rfl) ?_
  refine lv_iload_n hx hb dX7_has_1 rfl (lv_at hl 1 rfl) ?_
  refine lv_ishr hx hb dX7_has_2 ?_
  refine lv_iconst (v := (1)) hx hb dX7_has_3 (by decide) ?_
  refine lv_iand hx hb dX7_has_4 ?_
  refine lv_iconst (v := (1)) hx hb dX7_has_5 (by decide) ?_
  refine lv_icmp_ne (tgt := 13) hx hb dX7_has_6 (by decide) (fun c1 => ?_) (fun c1 => ?_)
  · have hf := pn_ifp c1 hf
    refine lv_iconst (v := (0)) hx hb dX7_has_13 (by decide) ?_
    cases hf
    rw [hQ]
    exact pn_retz hx hb hr hlocks hP hS rfl rfl dX7_has_14
  · have hf := pn_ifq c1 hf
    refine lv_iconst (v := (1)) hx hb dX7_has_9 (by decide) ?_
    refine lv_goto (tgt := 14) hx hb dX7_has_10 (by decide) ?_
    cases hf
    rw [hQ]
    exact pn_retz hx hb hr hlocks hP hS rfl rfl dX7_has_14
def lp_X7_ones_4 (p0 : Int32) : Nat → Int32 → Int32 → Option (Int32)
  | 0, _, _ => none
  | n + 1, x1, x2 =>
    if (8 : Int32) ≤ x2 then
  some x1
  else
  pn_nm (x1 + ((p0 >>> (x2 &&& 31)) &&& (1 : Int32))) fun z2 =>
  pn_nm (x2 + (1 : Int32)) fun z3 =>
  lp_X7_ones_4 p0 n z2 z3
def f_X7_ones (N : Nat) (p0 : Int32) : Option (Int32) :=
  pn_bd1 (lp_X7_ones_4 p0 N (0 : Int32) (0 : Int32)) (fun X4 => (pn_u1 fun x1_w4 => some x1_w4) X4)
set_option maxHeartbeats 4000000 in
set_option maxRecDepth 100000 in
theorem c_X7_ones (l : Launch) (D : va_G) (cI cJ cZ : ClassId) (sz : Nat) (N : Nat) (p0 : Int32) (rR : Int32) (hf : f_X7_ones N p0 = some rR) : Met l yX7_ones wsX7_ones { frames := 0, cells := 0, slots := 0, locals := 0 } (pn_Pc D cI cJ cZ [.int p0] [] sz) (pn_Qi D rR [] (va_A [] sz)) 0 0 (va_A [] sz) := by
  refine pn_entry (cc := cX7_ones) (maxL := 3) (ret := (some .int)) (Qf := pn_Qi D rR []) (by decide) rfl (Nat.le_of_ble_eq_true rfl) ?_
  intro p e s m args below meth c A ls H locs Qm hQ hx hb hr hlocks hml hown hts hK hP hD hA hS hl
  have hl : lv_has ls 3 [(0, .int p0)] := hl
  rw [f_X7_ones] at hf
  have lp4 : ∀ (n : Nat) (x1 : Int32) (x2 : Int32) (X : Int32) (H : Heap) (locs : List Loc) (ls : Array Slot), lp_X7_ones_4 p0 n x1 x2 = some X → va_P D vwCl [] H → va_S A s.heap H locs → lv_has ls 3 [(0, .int p0), (1, .int x1), (2, .int x2)] → (∀ (y1 : Int32)  (H : Heap) (locs : List Loc) (ls : Array Slot), X = y1 → va_P D vwCl [] H → va_S A s.heap H locs → lv_has ls 3 [(1, .int y1)] → W p l e { frames := 0, cells := 0, slots := 0, locals := 0 } s m args below meth c H locs 0 0 Qm (F0 m 24 ls [])) → W p l e { frames := 0, cells := 0, slots := 0, locals := 0 } s m args below meth c H locs 0 0 Qm (F0 m 4 ls []) := by
    intro n
    induction n with
    | zero => intro x1 x2 X H locs ls hf; cases hf
    | succ n ih =>
      intro x1 x2 X H locs ls hf hP hS hl kx24
      rw [lp_X7_ones_4] at hf
      refine lv_iload_n hx hb dX7_ones_4 rfl (lv_at hl 2 rfl) ?_
      refine lv_bipush (v := (8)) hx hb dX7_ones_5 (by decide) ?_
      refine lv_icmp_ge (tgt := 24) hx hb dX7_ones_7 (by decide) (fun c1 => ?_) (fun c1 => ?_)
      · have hf := pn_ifp c1 hf
        exact kx24 x1 H locs ls (Option.some.inj hf).symm hP hS (lv_sub hl [1] rfl)
      · have hf := pn_ifn c1 hf
        refine lv_iload_n hx hb dX7_ones_10 rfl (lv_at hl 1 rfl) ?_
        refine lv_iload_n hx hb dX7_ones_11 rfl (lv_at hl 0 rfl) ?_
        refine lv_iload_n hx hb dX7_ones_12 rfl (lv_at hl 2 rfl) ?_
        refine lv_ishr hx hb dX7_ones_13 ?_
        refine lv_iconst (v := (1)) hx hb dX7_ones_14 (by decide) ?_
        refine lv_iand hx hb dX7_ones_15 ?_
        refine lv_iadd hx hb dX7_ones_16 ?_
        refine lv_topi (fun z2 ez2 => ?_)
        have hf := pn_nm_at ez2 hf
        refine lv_istore_n (lv' := [(1, .int z2), (0, .int p0), (2, .int x2)]) hx hb dX7_ones_17 rfl hl (by decide) rfl (fun ls hl => ?_)
        obtain ⟨z3, ez3⟩ : ∃ y : Int32, y = x2 + (1) := ⟨_, rfl⟩
        have hf := pn_nm_at ez3 hf
        refine lv_iinc (v := z3) (lv' := [(2, .int z3), (1, .int z2), (0, .int p0)]) hx hb dX7_ones_18 hl (k := 2) rfl (by rw [ez3]; rfl) (by decide) rfl (fun ls hl => ?_)
        refine lv_goto (tgt := 4) hx hb dX7_ones_21 (by decide) ?_
        exact ih z2 z3 X H locs ls hf hP hS (lv_sub hl [2, 1, 0] rfl) kx24
  refine lv_iconst (v := (0)) hx hb dX7_ones_0 (by decide) ?_
  refine lv_istore_n (lv' := [(1, .int (0 : Int32)), (0, .int p0)]) hx hb dX7_ones_1 rfl hl (by decide) rfl (fun ls hl => ?_)
  refine lv_iconst (v := (0)) hx hb dX7_ones_2 (by decide) ?_
  refine lv_istore_n (lv' := [(2, .int (0 : Int32)), (1, .int (0 : Int32)), (0, .int p0)]) hx hb dX7_ones_3 rfl hl (by decide) rfl (fun ls hl => ?_)
  obtain ⟨X4, hX4, hf⟩ := pn_bd1_at hf
  refine lp4 N (0 : Int32) (0 : Int32) X4 H locs ls hX4 hP hS (lv_sub hl [2, 1, 0] rfl) ?_
  · intro x1_w4 H locs ls eX hP hS hl
    rw [eX] at hf
    have hf := pn_u1_at hf
    refine lv_iload_n hx hb dX7_ones_24 rfl (lv_at hl 0 rfl) ?_
    cases hf
    rw [hQ]
    exact pn_reti hx hb hr hlocks hP hS rfl dX7_ones_25
def lp_X7_power_4 (p0 : Int32) (p1 : Int32) : Nat → Int32 → Int32 → Option (Int32)
  | 0, _, _ => none
  | n + 1, x2, x3 =>
    if p1 ≤ x3 then
  some x2
  else
  pn_nm (x2 * p0) fun z2 =>
  pn_nm (x3 + (1 : Int32)) fun z3 =>
  lp_X7_power_4 p0 p1 n z2 z3
def f_X7_power (N : Nat) (p0 : Int32) (p1 : Int32) : Option (Int32) :=
  pn_bd1 (lp_X7_power_4 p0 p1 N (1 : Int32) (0 : Int32)) (fun X4 => (pn_u1 fun x2_w4 => some x2_w4) X4)
set_option maxHeartbeats 4000000 in
set_option maxRecDepth 100000 in
theorem c_X7_power (l : Launch) (D : va_G) (cI cJ cZ : ClassId) (sz : Nat) (N : Nat) (p0 : Int32) (p1 : Int32) (rR : Int32) (hf : f_X7_power N p0 p1 = some rR) : Met l yX7_power wsX7_power { frames := 0, cells := 0, slots := 0, locals := 0 } (pn_Pc D cI cJ cZ [.int p0, .int p1] [] sz) (pn_Qi D rR [] (va_A [] sz)) 0 0 (va_A [] sz) := by
  refine pn_entry (cc := cX7_power) (maxL := 4) (ret := (some .int)) (Qf := pn_Qi D rR []) (by decide) rfl (Nat.le_of_ble_eq_true rfl) ?_
  intro p e s m args below meth c A ls H locs Qm hQ hx hb hr hlocks hml hown hts hK hP hD hA hS hl
  have hl : lv_has ls 4 [(0, .int p0), (1, .int p1)] := hl
  rw [f_X7_power] at hf
  have lp4 : ∀ (n : Nat) (x2 : Int32) (x3 : Int32) (X : Int32) (H : Heap) (locs : List Loc) (ls : Array Slot), lp_X7_power_4 p0 p1 n x2 x3 = some X → va_P D vwCl [] H → va_S A s.heap H locs → lv_has ls 4 [(0, .int p0), (1, .int p1), (2, .int x2), (3, .int x3)] → (∀ (y2 : Int32)  (H : Heap) (locs : List Loc) (ls : Array Slot), X = y2 → va_P D vwCl [] H → va_S A s.heap H locs → lv_has ls 4 [(2, .int y2)] → W p l e { frames := 0, cells := 0, slots := 0, locals := 0 } s m args below meth c H locs 0 0 Qm (F0 m 19 ls [])) → W p l e { frames := 0, cells := 0, slots := 0, locals := 0 } s m args below meth c H locs 0 0 Qm (F0 m 4 ls []) := by
    intro n
    induction n with
    | zero => intro x2 x3 X H locs ls hf; cases hf
    | succ n ih =>
      intro x2 x3 X H locs ls hf hP hS hl kx19
      rw [lp_X7_power_4] at hf
      refine lv_iload_n hx hb dX7_power_4 rfl (lv_at hl 3 rfl) ?_
      refine lv_iload_n hx hb dX7_power_5 rfl (lv_at hl 1 rfl) ?_
      refine lv_icmp_ge (tgt := 19) hx hb dX7_power_6 (by decide) (fun c1 => ?_) (fun c1 => ?_)
      · have hf := pn_ifp c1 hf
        exact kx19 x2 H locs ls (Option.some.inj hf).symm hP hS (lv_sub hl [2] rfl)
      · have hf := pn_ifn c1 hf
        refine lv_iload_n hx hb dX7_power_9 rfl (lv_at hl 2 rfl) ?_
        refine lv_iload_n hx hb dX7_power_10 rfl (lv_at hl 0 rfl) ?_
        refine lv_imul hx hb dX7_power_11 ?_
        refine lv_topi (fun z2 ez2 => ?_)
        have hf := pn_nm_at ez2 hf
        refine lv_istore_n (lv' := [(2, .int z2), (0, .int p0), (1, .int p1), (3, .int x3)]) hx hb dX7_power_12 rfl hl (by decide) rfl (fun ls hl => ?_)
        obtain ⟨z3, ez3⟩ : ∃ y : Int32, y = x3 + (1) := ⟨_, rfl⟩
        have hf := pn_nm_at ez3 hf
        refine lv_iinc (v := z3) (lv' := [(3, .int z3), (2, .int z2), (0, .int p0), (1, .int p1)]) hx hb dX7_power_13 hl (k := 3) rfl (by rw [ez3]; rfl) (by decide) rfl (fun ls hl => ?_)
        refine lv_goto (tgt := 4) hx hb dX7_power_16 (by decide) ?_
        exact ih z2 z3 X H locs ls hf hP hS (lv_sub hl [2, 3, 1, 0] rfl) kx19
  refine lv_iconst (v := (1)) hx hb dX7_power_0 (by decide) ?_
  refine lv_istore_n (lv' := [(2, .int (1 : Int32)), (0, .int p0), (1, .int p1)]) hx hb dX7_power_1 rfl hl (by decide) rfl (fun ls hl => ?_)
  refine lv_iconst (v := (0)) hx hb dX7_power_2 (by decide) ?_
  refine lv_istore_n (lv' := [(3, .int (0 : Int32)), (2, .int (1 : Int32)), (0, .int p0), (1, .int p1)]) hx hb dX7_power_3 rfl hl (by decide) rfl (fun ls hl => ?_)
  obtain ⟨X4, hX4, hf⟩ := pn_bd1_at hf
  refine lp4 N (1 : Int32) (0 : Int32) X4 H locs ls hX4 hP hS (lv_sub hl [2, 3, 1, 0] rfl) ?_
  · intro x2_w4 H locs ls eX hP hS hl
    rw [eX] at hf
    have hf := pn_u1_at hf
    refine lv_iload_n hx hb dX7_power_19 rfl (lv_at hl 0 rfl) ?_
    cases hf
    rw [hQ]
    exact pn_reti hx hb hr hlocks hP hS rfl dX7_power_20
def lp_X7_lay_2 (r_q1 : Nat → Int32) : Nat → Int32 → (Nat → Int32) → Option ((Nat → Int32))
  | 0, _, _ => none
  | n + 1, x2, r_q0 =>
    if (265 : Int32) ≤ x2 then
  some r_q0
  else
  pn_rd 265 r_q1 x2 fun w2 =>
  pn_wrI 265 r_q0 x2 w2 fun g4 =>
  pn_nm (x2 + (1 : Int32)) fun z6 =>
  lp_X7_lay_2 r_q1 n z6 g4
def f_X7_lay (N : Nat) (r_q0 : Nat → Int32) (r_q1 : Nat → Int32) : Option ((Nat → Int32)) :=
  pn_bd1 (lp_X7_lay_2 r_q1 N (0 : Int32) r_q0) (fun X2 => (pn_u1 fun r_q0_w7 => some r_q0_w7) X2)
set_option maxHeartbeats 4000000 in
set_option maxRecDepth 100000 in
theorem c_X7_lay (l : Launch) (D : va_G) (cI cJ cZ : ClassId) (a_q0 a_q1 : Nat) (sz : Nat) (N : Nat) (r_q0 : Nat → Int32) (r_q1 : Nat → Int32) (o_q0 : Nat → Int32) (hf : f_X7_lay N r_q0 r_q1 = some o_q0) : Met l yX7_lay wsX7_lay { frames := 0, cells := 0, slots := 0, locals := 0 } (pn_Pc D cI cJ cZ [.ref a_q0, .ref a_q1] [(a_q0, .inl (cI, 265, .inl r_q0)), (a_q1, .inl (cI, 265, .inl r_q1))] sz) (pn_Qv D [(a_q0, .inl (cI, 265, .inl o_q0)), (a_q1, .inl (cI, 265, .inl r_q1))] (va_A [(a_q0, .inl (cI, 265, .inl r_q0)), (a_q1, .inl (cI, 265, .inl r_q1))] sz)) 0 0 (va_A [(a_q0, .inl (cI, 265, .inl r_q0)), (a_q1, .inl (cI, 265, .inl r_q1))] sz) := by
  refine pn_entry (cc := cX7_lay) (maxL := 3) (ret := none) (Qf := pn_Qv D [(a_q0, .inl (cI, 265, .inl o_q0)), (a_q1, .inl (cI, 265, .inl r_q1))]) (by decide) rfl (Nat.le_of_ble_eq_true rfl) ?_
  intro p e s m args below meth c A ls H locs Qm hQ hx hb hr hlocks hml hown hts hK hP hD hA hS hl
  have hl : lv_has ls 3 [(0, .ref a_q0), (1, .ref a_q1)] := hl
  rw [f_X7_lay] at hf
  have lp2 : ∀ (n : Nat) (x2 : Int32) (r_q0 : Nat → Int32) (X : (Nat → Int32)) (H : Heap) (locs : List Loc) (ls : Array Slot), lp_X7_lay_2 r_q1 n x2 r_q0 = some X → va_P D vwCl [(a_q0, .inl (cI, 265, .inl r_q0)), (a_q1, .inl (cI, 265, .inl r_q1))] H → va_S A s.heap H locs → lv_has ls 3 [(0, .ref a_q0), (1, .ref a_q1), (2, .int x2)] → (∀  (r_q0' : Nat → Int32) (H : Heap) (locs : List Loc) (ls : Array Slot), X = r_q0' → va_P D vwCl [(a_q0, .inl (cI, 265, .inl (r_q0'))), (a_q1, .inl (cI, 265, .inl r_q1))] H → va_S A s.heap H locs → lv_has ls 3 [] → W p l e { frames := 0, cells := 0, slots := 0, locals := 0 } s m args below meth c H locs 0 0 Qm (F0 m 21 ls [])) → W p l e { frames := 0, cells := 0, slots := 0, locals := 0 } s m args below meth c H locs 0 0 Qm (F0 m 2 ls []) := by
    intro n
    induction n with
    | zero => intro x2 r_q0 X H locs ls hf; cases hf
    | succ n ih =>
      intro x2 r_q0 X H locs ls hf hP hS hl kx21
      rw [lp_X7_lay_2] at hf
      refine lv_iload_n hx hb dX7_lay_2 rfl (lv_at hl 2 rfl) ?_
      refine lv_sipush (v := (265)) hx hb dX7_lay_3 (by decide) ?_
      refine lv_icmp_ge (tgt := 21) hx hb dX7_lay_6 (by decide) (fun c1 => ?_) (fun c1 => ?_)
      · have hf := pn_ifp c1 hf
        exact kx21 r_q0 H locs ls (Option.some.inj hf).symm hP hS (lv_sub hl [] rfl)
      · have hf := pn_ifn c1 hf
        refine lv_aload_n hx hb dX7_lay_9 rfl (lv_at hl 0 rfl) ?_
        refine lv_iload_n hx hb dX7_lay_10 rfl (lv_at hl 2 rfl) ?_
        refine lv_aload_n hx hb dX7_lay_11 rfl (lv_at hl 1 rfl) ?_
        refine lv_iload_n hx hb dX7_lay_12 rfl (lv_at hl 2 rfl) ?_
        obtain ⟨hi3, w2, ew2, hf⟩ := pn_rd_at hf
        refine pn_ldI hx hb hK.1 hP 1 0 rfl rfl hi3 ew2 dX7_lay_13 ?_
        obtain ⟨hi5, g4, eg4, hf⟩ := pn_wrI_at hf
        refine pn_stI hx hb hK.1 hP (hD.addr rfl) hS 0 0 rfl rfl hi5 eg4 dX7_lay_14 (fun H locs (hP : va_P D vwCl [(a_q0, .inl (cI, 265, .inl g4)), (a_q1, .inl (cI, 265, .inl r_q1))] H) _ hS => ?_)
        obtain ⟨z6, ez6⟩ : ∃ y : Int32, y = x2 + (1) := ⟨_, rfl⟩
        have hf := pn_nm_at ez6 hf
        refine lv_iinc (v := z6) (lv' := [(2, .int z6), (0, .ref a_q0), (1, .ref a_q1)]) hx hb dX7_lay_15 hl (k := 2) rfl (by rw [ez6]; rfl) (by decide) rfl (fun ls hl => ?_)
        refine lv_goto (tgt := 2) hx hb dX7_lay_18 (by decide) ?_
        exact ih z6 g4 X H locs ls hf hP hS (lv_sub hl [1, 2, 0] rfl) kx21
  refine lv_iconst (v := (0)) hx hb dX7_lay_0 (by decide) ?_
  refine lv_istore_n (lv' := [(2, .int (0 : Int32)), (0, .ref a_q0), (1, .ref a_q1)]) hx hb dX7_lay_1 rfl hl (by decide) rfl (fun ls hl => ?_)
  obtain ⟨X2, hX2, hf⟩ := pn_bd1_at hf
  refine lp2 N (0 : Int32) r_q0 X2 H locs ls hX2 hP hS (lv_sub hl [1, 2, 0] rfl) ?_
  · intro r_q0_w7 H locs ls eX hP hS hl
    rw [eX] at hf
    have hf := pn_u1_at hf
    cases hf
    rw [hQ]
    exact pn_retv hx hb hr hlocks hP hS dX7_lay_21
def f_X7_ref (r_q0 : Nat → Int32) (p1 : Int32) (p2 : Int32) : Option (Int32) :=
  pn_rd 265 r_q0 (((9 : Int32) + ((8 : Int32) * p1)) + p2) fun w1 =>
  some w1
set_option maxHeartbeats 4000000 in
set_option maxRecDepth 100000 in
theorem c_X7_ref (l : Launch) (D : va_G) (cI cJ cZ : ClassId) (a_q0 : Nat) (sz : Nat) (r_q0 : Nat → Int32) (p1 : Int32) (p2 : Int32) (rR : Int32) (hf : f_X7_ref r_q0 p1 p2 = some rR) : Met l yX7_ref wsX7_ref { frames := 0, cells := 0, slots := 0, locals := 0 } (pn_Pc D cI cJ cZ [.ref a_q0, .int p1, .int p2] [(a_q0, .inl (cI, 265, .inl r_q0))] sz) (pn_Qi D rR [(a_q0, .inl (cI, 265, .inl r_q0))] (va_A [(a_q0, .inl (cI, 265, .inl r_q0))] sz)) 0 0 (va_A [(a_q0, .inl (cI, 265, .inl r_q0))] sz) := by
  refine pn_entry (cc := cX7_ref) (maxL := 3) (ret := (some .int)) (Qf := pn_Qi D rR [(a_q0, .inl (cI, 265, .inl r_q0))]) (by decide) rfl (Nat.le_of_ble_eq_true rfl) ?_
  intro p e s m args below meth c A ls H locs Qm hQ hx hb hr hlocks hml hown hts hK hP hD hA hS hl
  have hl : lv_has ls 3 [(0, .ref a_q0), (1, .int p1), (2, .int p2)] := hl
  rw [f_X7_ref] at hf
  refine lv_aload_n hx hb dX7_ref_0 rfl (lv_at hl 0 rfl) ?_
  refine lv_bipush (v := (9)) hx hb dX7_ref_1 (by decide) ?_
  refine lv_bipush (v := (8)) hx hb dX7_ref_3 (by decide) ?_
  refine lv_iload_n hx hb dX7_ref_5 rfl (lv_at hl 1 rfl) ?_
  refine lv_imul hx hb dX7_ref_6 ?_
  refine lv_iadd hx hb dX7_ref_7 ?_
  refine lv_iload_n hx hb dX7_ref_8 rfl (lv_at hl 2 rfl) ?_
  refine lv_iadd hx hb dX7_ref_9 ?_
  obtain ⟨hi2, w1, ew1, hf⟩ := pn_rd_at hf
  refine pn_ldI hx hb hK.1 hP 0 0 rfl rfl hi2 ew1 dX7_ref_10 ?_
  cases hf
  rw [hQ]
  exact pn_reti hx hb hr hlocks hP hS rfl dX7_ref_11
def f_X7_isThere (r_q0 : Nat → Int32) (p1 : Int32) (p2 : Int32) : Option (Int32) :=
  pn_rd 265 r_q0 (0 : Int32) fun w1 =>
  pn_bd1 (f_X7_in p1.toInt64 (0 : Int64) ((w1 - (1 : Int32)).toInt64)) fun ru3 =>
  if ru3 = 0 then
  some (0 : Int32)
  else
  pn_rd 265 r_q0 ((1 : Int32) + p1) fun w5 =>
  pn_bd1 (f_X7_in p2.toInt64 (0 : Int64) ((w5 - (1 : Int32)).toInt64)) fun ru7 =>
  if ru7 = 0 then
  some (0 : Int32)
  else
  some (1 : Int32)
set_option maxHeartbeats 4000000 in
set_option maxRecDepth 100000 in
theorem c_X7_isThere (l : Launch) (D : va_G) (cI cJ cZ : ClassId) (a_q0 : Nat) (sz : Nat) (r_q0 : Nat → Int32) (p1 : Int32) (p2 : Int32) (rR : Int32) (hf : f_X7_isThere r_q0 p1 p2 = some rR) : Met l yX7_isThere wsX7_isThere { frames := 1, cells := 0, slots := 0, locals := 25 } (pn_Pc D cI cJ cZ [.ref a_q0, .int p1, .int p2] [(a_q0, .inl (cI, 265, .inl r_q0))] sz) (pn_Qi D rR [(a_q0, .inl (cI, 265, .inl r_q0))] (va_A [(a_q0, .inl (cI, 265, .inl r_q0))] sz)) 0 0 (va_A [(a_q0, .inl (cI, 265, .inl r_q0))] sz) := by
  refine pn_entry (cc := cX7_isThere) (maxL := 3) (ret := (some .boolean)) (Qf := pn_Qi D rR [(a_q0, .inl (cI, 265, .inl r_q0))]) (by decide) rfl (Nat.le_of_ble_eq_true rfl) ?_
  intro p e s m args below meth c A ls H locs Qm hQ hx hb hr hlocks hml hown hts hK hP hD hA hS hl
  have hl : lv_has ls 3 [(0, .ref a_q0), (1, .int p1), (2, .int p2)] := hl
  rw [f_X7_isThere] at hf
  refine lv_iload_n hx hb dX7_isThere_0 rfl (lv_at hl 1 rfl) ?_
  refine lv_i2l hx hb dX7_isThere_1 rfl ?_
  refine lv_lconst (v := 0) hx hb dX7_isThere_2 (by decide) ?_
  refine lv_aload_n hx hb dX7_isThere_3 rfl (lv_at hl 0 rfl) ?_
  refine lv_iconst (v := (0)) hx hb dX7_isThere_4 (by decide) ?_
  obtain ⟨hi2, w1, ew1, hf⟩ := pn_rd_at hf
  refine pn_ldI hx hb hK.1 hP 0 0 rfl rfl hi2 ew1 dX7_isThere_5 ?_
  refine lv_iconst (v := (1)) hx hb dX7_isThere_6 (by decide) ?_
  refine lv_isub hx hb dX7_isThere_7 ?_
  refine lv_i2l hx hb dX7_isThere_8 rfl ?_
  obtain ⟨ru3, hu3, hf⟩ := pn_bd1_at hf
  refine pn_calli [] (va_runS (As := [.long p1.toInt64, .long (0 : Int64), .long ((w1 - (1 : Int32)).toInt64)]) (rest := []) ⟨hx, hb, hml, hown, hts⟩ (c_X7_in l D cI cJ cZ H.size p1.toInt64 (0 : Int64) ((w1 - (1 : Int32)).toInt64) ru3 hu3) (va_cwS 3 hts gX7_isThere_X7_in rfl rfl rfl hdX7_in ⟨Nat.le_of_ble_eq_true rfl, Nat.le_of_ble_eq_true rfl⟩) (pn_preS [] hP (hD.addr rfl) hK rfl rfl) rfl rfl hl.1 rfl (lv_room (Nat.le_of_ble_eq_true rfl)) dX7_isThere_9 ⟨Nat.zero_le _, Nat.zero_le _⟩) hP (hD.addr rfl) hS hA rfl rfl rfl (fun H locs (hP : va_P D vwCl [(a_q0, .inl (cI, 265, .inl r_q0))] H) _ hS => ?_)
  refine lv_if_eq (tgt := 36) hx hb dX7_isThere_12 (by decide) (fun c4 => ?_) (fun c4 => ?_)
  · have hf := pn_ifp c4 hf
    refine lv_iconst (v := (0)) hx hb dX7_isThere_36 (by decide) ?_
    cases hf
    rw [hQ]
    exact pn_retz hx hb hr hlocks hP hS rfl rfl dX7_isThere_37
  · have hf := pn_ifn c4 hf
    refine lv_iload_n hx hb dX7_isThere_15 rfl (lv_at hl 2 rfl) ?_
    refine lv_i2l hx hb dX7_isThere_16 rfl ?_
    refine lv_lconst (v := 0) hx hb dX7_isThere_17 (by decide) ?_
    refine lv_aload_n hx hb dX7_isThere_18 rfl (lv_at hl 0 rfl) ?_
    refine lv_iconst (v := (1)) hx hb dX7_isThere_19 (by decide) ?_
    refine lv_iload_n hx hb dX7_isThere_20 rfl (lv_at hl 1 rfl) ?_
    refine lv_iadd hx hb dX7_isThere_21 ?_
    obtain ⟨hi6, w5, ew5, hf⟩ := pn_rd_at hf
    refine pn_ldI hx hb hK.1 hP 0 0 rfl rfl hi6 ew5 dX7_isThere_22 ?_
    refine lv_iconst (v := (1)) hx hb dX7_isThere_23 (by decide) ?_
    refine lv_isub hx hb dX7_isThere_24 ?_
    refine lv_i2l hx hb dX7_isThere_25 rfl ?_
    obtain ⟨ru7, hu7, hf⟩ := pn_bd1_at hf
    refine pn_calli [] (va_runS (As := [.long p2.toInt64, .long (0 : Int64), .long ((w5 - (1 : Int32)).toInt64)]) (rest := []) ⟨hx, hb, hml, hown, hts⟩ (c_X7_in l D cI cJ cZ H.size p2.toInt64 (0 : Int64) ((w5 - (1 : Int32)).toInt64) ru7 hu7) (va_cwS 3 hts gX7_isThere_X7_in rfl rfl rfl hdX7_in ⟨Nat.le_of_ble_eq_true rfl, Nat.le_of_ble_eq_true rfl⟩) (pn_preS [] hP (hD.addr rfl) hK rfl rfl) rfl rfl hl.1 rfl (lv_room (Nat.le_of_ble_eq_true rfl)) dX7_isThere_26 ⟨Nat.zero_le _, Nat.zero_le _⟩) hP (hD.addr rfl) hS hA rfl rfl rfl (fun H locs (hP : va_P D vwCl [(a_q0, .inl (cI, 265, .inl r_q0))] H) _ hS => ?_)
    refine lv_if_eq (tgt := 36) hx hb dX7_isThere_29 (by decide) (fun c8 => ?_) (fun c8 => ?_)
    · have hf := pn_ifp c8 hf
      refine lv_iconst (v := (0)) hx hb dX7_isThere_36 (by decide) ?_
      cases hf
      rw [hQ]
      exact pn_retz hx hb hr hlocks hP hS rfl rfl dX7_isThere_37
    · have hf := pn_ifn c8 hf
      refine lv_iconst (v := (1)) hx hb dX7_isThere_32 (by decide) ?_
      refine lv_goto (tgt := 37) hx hb dX7_isThere_33 (by decide) ?_
      cases hf
      rw [hQ]
      exact pn_retz hx hb hr hlocks hP hS rfl rfl dX7_isThere_37
def f_X7_isLeft (r_q0 : Nat → Int32) (p1 : Int32) (p2 : Int32) : Option (Int32) :=
  pn_bd1 (f_X7_isThere r_q0 (p2 / (4 : Int32)) (p2 - p2 / (4 : Int32) * (4 : Int32))) fun ru1 =>
  if ru1 = 0 then
  some (0 : Int32)
  else
  pn_bd1 (f_X7_has p1 (p2 / (4 : Int32))) fun ru3 =>
  if ru3 = 0 then
  some (0 : Int32)
  else
  some (1 : Int32)
set_option maxHeartbeats 4000000 in
set_option maxRecDepth 100000 in
theorem c_X7_isLeft (l : Launch) (D : va_G) (cI cJ cZ : ClassId) (a_q0 : Nat) (sz : Nat) (r_q0 : Nat → Int32) (p1 : Int32) (p2 : Int32) (rR : Int32) (hf : f_X7_isLeft r_q0 p1 p2 = some rR) : Met l yX7_isLeft wsX7_isLeft { frames := 2, cells := 0, slots := 0, locals := 47 } (pn_Pc D cI cJ cZ [.ref a_q0, .int p1, .int p2] [(a_q0, .inl (cI, 265, .inl r_q0))] sz) (pn_Qi D rR [(a_q0, .inl (cI, 265, .inl r_q0))] (va_A [(a_q0, .inl (cI, 265, .inl r_q0))] sz)) 0 0 (va_A [(a_q0, .inl (cI, 265, .inl r_q0))] sz) := by
  refine pn_entry (cc := cX7_isLeft) (maxL := 3) (ret := (some .boolean)) (Qf := pn_Qi D rR [(a_q0, .inl (cI, 265, .inl r_q0))]) (by decide) rfl (Nat.le_of_ble_eq_true rfl) ?_
  intro p e s m args below meth c A ls H locs Qm hQ hx hb hr hlocks hml hown hts hK hP hD hA hS hl
  have hl : lv_has ls 3 [(0, .ref a_q0), (1, .int p1), (2, .int p2)] := hl
  rw [f_X7_isLeft] at hf
  refine lv_aload_n hx hb dX7_isLeft_0 rfl (lv_at hl 0 rfl) ?_
  refine lv_iload_n hx hb dX7_isLeft_1 rfl (lv_at hl 2 rfl) ?_
  refine lv_iconst (v := (4)) hx hb dX7_isLeft_2 (by decide) ?_
  refine lv_idiv hx hb dX7_isLeft_3 (by decide) ?_
  refine lv_iload_n hx hb dX7_isLeft_4 rfl (lv_at hl 2 rfl) ?_
  refine lv_iconst (v := (4)) hx hb dX7_isLeft_5 (by decide) ?_
  refine lv_irem hx hb dX7_isLeft_6 (by decide) ?_
  obtain ⟨ru1, hu1, hf⟩ := pn_bd1_at hf
  refine pn_calli [0] (va_runS (As := [.ref a_q0, .int (p2 / (4 : Int32)), .int (p2 - p2 / (4 : Int32) * (4 : Int32))]) (rest := []) ⟨hx, hb, hml, hown, hts⟩ (c_X7_isThere l D cI cJ cZ a_q0 H.size r_q0 (p2 / (4 : Int32)) (p2 - p2 / (4 : Int32) * (4 : Int32)) ru1 hu1) (va_cwS 3 hts gX7_isLeft_X7_isThere rfl rfl rfl hdX7_isThere ⟨Nat.le_of_ble_eq_true rfl, Nat.le_of_ble_eq_true rfl⟩) (pn_preS [0] hP (hD.addr rfl) hK rfl rfl) rfl rfl hl.1 rfl (lv_room (Nat.le_of_ble_eq_true rfl)) dX7_isLeft_7 ⟨Nat.zero_le _, Nat.zero_le _⟩) hP (hD.addr rfl) hS hA rfl rfl rfl (fun H locs (hP : va_P D vwCl [(a_q0, .inl (cI, 265, .inl r_q0))] H) _ hS => ?_)
  refine lv_if_eq (tgt := 27) hx hb dX7_isLeft_10 (by decide) (fun c2 => ?_) (fun c2 => ?_)
  · have hf := pn_ifp c2 hf
    refine lv_iconst (v := (0)) hx hb dX7_isLeft_27 (by decide) ?_
    cases hf
    rw [hQ]
    exact pn_retz hx hb hr hlocks hP hS rfl rfl dX7_isLeft_28
  · have hf := pn_ifn c2 hf
    refine lv_iload_n hx hb dX7_isLeft_13 rfl (lv_at hl 1 rfl) ?_
    refine lv_iload_n hx hb dX7_isLeft_14 rfl (lv_at hl 2 rfl) ?_
    refine lv_iconst (v := (4)) hx hb dX7_isLeft_15 (by decide) ?_
    refine lv_idiv hx hb dX7_isLeft_16 (by decide) ?_
    obtain ⟨ru3, hu3, hf⟩ := pn_bd1_at hf
    refine pn_calli [] (va_runS (As := [.int p1, .int (p2 / (4 : Int32))]) (rest := []) ⟨hx, hb, hml, hown, hts⟩ (c_X7_has l D cI cJ cZ H.size p1 (p2 / (4 : Int32)) ru3 hu3) (va_cwS 2 hts gX7_isLeft_X7_has rfl rfl rfl hdX7_has ⟨Nat.le_of_ble_eq_true rfl, Nat.le_of_ble_eq_true rfl⟩) (pn_preS [] hP (hD.addr rfl) hK rfl rfl) rfl rfl hl.1 rfl (lv_room (Nat.le_of_ble_eq_true rfl)) dX7_isLeft_17 ⟨Nat.zero_le _, Nat.zero_le _⟩) hP (hD.addr rfl) hS hA rfl rfl rfl (fun H locs (hP : va_P D vwCl [(a_q0, .inl (cI, 265, .inl r_q0))] H) _ hS => ?_)
    refine lv_if_eq (tgt := 27) hx hb dX7_isLeft_20 (by decide) (fun c4 => ?_) (fun c4 => ?_)
    · have hf := pn_ifp c4 hf
      refine lv_iconst (v := (0)) hx hb dX7_isLeft_27 (by decide) ?_
      cases hf
      rw [hQ]
      exact pn_retz hx hb hr hlocks hP hS rfl rfl dX7_isLeft_28
    · have hf := pn_ifn c4 hf
      refine lv_iconst (v := (1)) hx hb dX7_isLeft_23 (by decide) ?_
      refine lv_goto (tgt := 28) hx hb dX7_isLeft_24 (by decide) ?_
      cases hf
      rw [hQ]
      exact pn_retz hx hb hr hlocks hP hS rfl rfl dX7_isLeft_28
def f_X7_allNotes (r_q0 : Nat → Int32) : Option (Int32) :=
  pn_rd 265 r_q0 (0 : Int32) fun w1 =>
  some (((1 : Int32) <<< (w1 &&& 31)) - (1 : Int32))
set_option maxHeartbeats 4000000 in
set_option maxRecDepth 100000 in
theorem c_X7_allNotes (l : Launch) (D : va_G) (cI cJ cZ : ClassId) (a_q0 : Nat) (sz : Nat) (r_q0 : Nat → Int32) (rR : Int32) (hf : f_X7_allNotes r_q0 = some rR) : Met l yX7_allNotes wsX7_allNotes { frames := 0, cells := 0, slots := 0, locals := 0 } (pn_Pc D cI cJ cZ [.ref a_q0] [(a_q0, .inl (cI, 265, .inl r_q0))] sz) (pn_Qi D rR [(a_q0, .inl (cI, 265, .inl r_q0))] (va_A [(a_q0, .inl (cI, 265, .inl r_q0))] sz)) 0 0 (va_A [(a_q0, .inl (cI, 265, .inl r_q0))] sz) := by
  refine pn_entry (cc := cX7_allNotes) (maxL := 1) (ret := (some .int)) (Qf := pn_Qi D rR [(a_q0, .inl (cI, 265, .inl r_q0))]) (by decide) rfl (Nat.le_of_ble_eq_true rfl) ?_
  intro p e s m args below meth c A ls H locs Qm hQ hx hb hr hlocks hml hown hts hK hP hD hA hS hl
  have hl : lv_has ls 1 [(0, .ref a_q0)] := hl
  rw [f_X7_allNotes] at hf
  refine lv_iconst (v := (1)) hx hb dX7_allNotes_0 (by decide) ?_
  refine lv_aload_n hx hb dX7_allNotes_1 rfl (lv_at hl 0 rfl) ?_
  refine lv_iconst (v := (0)) hx hb dX7_allNotes_2 (by decide) ?_
  obtain ⟨hi2, w1, ew1, hf⟩ := pn_rd_at hf
  refine pn_ldI hx hb hK.1 hP 0 0 rfl rfl hi2 ew1 dX7_allNotes_3 ?_
  refine lv_ishl hx hb dX7_allNotes_4 ?_
  refine lv_iconst (v := (1)) hx hb dX7_allNotes_5 (by decide) ?_
  refine lv_isub hx hb dX7_allNotes_6 ?_
  cases hf
  rw [hQ]
  exact pn_reti hx hb hr hlocks hP hS rfl dX7_allNotes_7
def f_X7_write (v_t_thrown : Int32) (v_t_textSize : Int32) (r_t_text : Nat → Int32) (p1 : Int32) : Option (Int32 × Int32 × Int32 × (Nat → Int32)) :=
  pn_bd1 (f_X7_in p1.toInt64 (0 : Int64) (255 : Int64)) fun ru1 =>
  if ¬ ru1 = 0 then
  if ¬ v_t_textSize = (120 : Int32) then
  pn_wrI 120 r_t_text v_t_textSize p1 fun g4 =>
  pn_nm (v_t_textSize + (1 : Int32)) fun z6 =>
  some (z6, (0 : Int32), z6, g4)
  else
  some ((-4 : Int32), (0 : Int32), v_t_textSize, r_t_text)
  else
  some ((-2 : Int32), (0 : Int32), v_t_textSize, r_t_text)
set_option maxHeartbeats 4000000 in
set_option maxRecDepth 100000 in
theorem c_X7_write (l : Launch) (D : va_G) (cI cJ cZ : ClassId) (a_t a_t_text a_t_readPage a_t_page a_t_trial a_t_work a_t_book a_t_kept a_t_isKept a_t_seenWhat a_t_seenV a_t_seenIs a_t_label a_t_finds a_t_reason a_t_caseFirst a_t_brief a_t_printed a_t_renamed a_t_worth : Nat) (sz : Nat) (v_t_place : Int32) (v_t_doings : Int32) (v_t_seen : Int32) (v_t_seed : Int64) (v_t_cases : Int32) (v_t_printedSize : Int32) (v_t_lastReason : Int32) (v_t_thrown : Int32) (v_t_textSize : Int32) (r_t_text : Nat → Int32) (p1 : Int32) (rR : Int32) (o_t_thrown : Int32) (o_t_textSize : Int32) (o_t_text : Nat → Int32) (hf : f_X7_write v_t_thrown v_t_textSize r_t_text p1 = some (rR, o_t_thrown, o_t_textSize, o_t_text)) : Met l yX7_write wsX7_write { frames := 1, cells := 0, slots := 0, locals := 25 } (pn_Pc D cI cJ cZ [.ref a_t, .int p1] [(a_t, .inr (6, [.int v_t_thrown, .ref a_t_text, .int v_t_textSize, .int v_t_place, .ref a_t_readPage, .ref a_t_page, .ref a_t_trial, .ref a_t_work, .ref a_t_book, .int v_t_doings, .ref a_t_kept, .ref a_t_isKept, .int v_t_seen, .ref a_t_seenWhat, .ref a_t_seenV, .ref a_t_seenIs, .long v_t_seed, .ref a_t_label, .ref a_t_finds, .ref a_t_reason, .ref a_t_caseFirst, .int v_t_cases, .ref a_t_brief, .ref a_t_printed, .int v_t_printedSize, .ref a_t_renamed, .ref a_t_worth, .int v_t_lastReason])), (a_t_text, .inl (cI, 120, .inl r_t_text))] sz) (pn_Qi D rR [(a_t, .inr (6, [.int o_t_thrown, .ref a_t_text, .int o_t_textSize, .int v_t_place, .ref a_t_readPage, .ref a_t_page, .ref a_t_trial, .ref a_t_work, .ref a_t_book, .int v_t_doings, .ref a_t_kept, .ref a_t_isKept, .int v_t_seen, .ref a_t_seenWhat, .ref a_t_seenV, .ref a_t_seenIs, .long v_t_seed, .ref a_t_label, .ref a_t_finds, .ref a_t_reason, .ref a_t_caseFirst, .int v_t_cases, .ref a_t_brief, .ref a_t_printed, .int v_t_printedSize, .ref a_t_renamed, .ref a_t_worth, .int v_t_lastReason])), (a_t_text, .inl (cI, 120, .inl o_t_text))] (va_A [(a_t, .inr (6, [.int v_t_thrown, .ref a_t_text, .int v_t_textSize, .int v_t_place, .ref a_t_readPage, .ref a_t_page, .ref a_t_trial, .ref a_t_work, .ref a_t_book, .int v_t_doings, .ref a_t_kept, .ref a_t_isKept, .int v_t_seen, .ref a_t_seenWhat, .ref a_t_seenV, .ref a_t_seenIs, .long v_t_seed, .ref a_t_label, .ref a_t_finds, .ref a_t_reason, .ref a_t_caseFirst, .int v_t_cases, .ref a_t_brief, .ref a_t_printed, .int v_t_printedSize, .ref a_t_renamed, .ref a_t_worth, .int v_t_lastReason])), (a_t_text, .inl (cI, 120, .inl r_t_text))] sz)) 0 0 (va_A [(a_t, .inr (6, [.int v_t_thrown, .ref a_t_text, .int v_t_textSize, .int v_t_place, .ref a_t_readPage, .ref a_t_page, .ref a_t_trial, .ref a_t_work, .ref a_t_book, .int v_t_doings, .ref a_t_kept, .ref a_t_isKept, .int v_t_seen, .ref a_t_seenWhat, .ref a_t_seenV, .ref a_t_seenIs, .long v_t_seed, .ref a_t_label, .ref a_t_finds, .ref a_t_reason, .ref a_t_caseFirst, .int v_t_cases, .ref a_t_brief, .ref a_t_printed, .int v_t_printedSize, .ref a_t_renamed, .ref a_t_worth, .int v_t_lastReason])), (a_t_text, .inl (cI, 120, .inl r_t_text))] sz) := by
  refine pn_entry (cc := cX7_write) (maxL := 2) (ret := (some .int)) (Qf := pn_Qi D rR [(a_t, .inr (6, [.int o_t_thrown, .ref a_t_text, .int o_t_textSize, .int v_t_place, .ref a_t_readPage, .ref a_t_page, .ref a_t_trial, .ref a_t_work, .ref a_t_book, .int v_t_doings, .ref a_t_kept, .ref a_t_isKept, .int v_t_seen, .ref a_t_seenWhat, .ref a_t_seenV, .ref a_t_seenIs, .long v_t_seed, .ref a_t_label, .ref a_t_finds, .ref a_t_reason, .ref a_t_caseFirst, .int v_t_cases, .ref a_t_brief, .ref a_t_printed, .int v_t_printedSize, .ref a_t_renamed, .ref a_t_worth, .int v_t_lastReason])), (a_t_text, .inl (cI, 120, .inl o_t_text))]) (by decide) rfl (Nat.le_of_ble_eq_true rfl) ?_
  intro p e s m args below meth c A ls H locs Qm hQ hx hb hr hlocks hml hown hts hK hP hD hA hS hl
  have hl : lv_has ls 2 [(0, .ref a_t), (1, .int p1)] := hl
  have hinX7 : ∀ w ∈ wsX70, w ∈ wsX7_write := by decide +kernel
  have fl_7 := hts (.fieldLink RX7 7 "PointingNotesModel" "text" "[I") (by decide +kernel)
  have fl_68 := hts (.fieldLink RX7 68 "PointingNotesModel" "thrown" "I") (by decide +kernel)
  have fl_86 := hts (.fieldLink RX7 86 "PointingNotesModel" "textSize" "I") (by decide +kernel)
  have kl_84 := hts (.constantLong RX7 84 (255)) (by decide +kernel)
  rw [f_X7_write] at hf
  refine lv_aload_n hx hb dX7_write_0 rfl (lv_at hl 0 rfl) ?_
  refine lv_iconst (v := (0)) hx hb dX7_write_1 (by decide) ?_
  refine va_put (D := D) (ci := 6) (v := .int (0 : Int32)) (ty := .int) (C := RX7) (T := TX7) (N := 28) hx hb hts hinX7 tyX7 tyX7_ok nmX7 hown hK.1 hP (hD.addr rfl) hS 0 rfl rfl 0 (by decide) fl_68 (fun _ h9 => h9) rfl (by decide +kernel) rfl rfl (Nat.le_of_ble_eq_true rfl) dX7_write_2 (fun H locs (hP : va_P D vwCl [(a_t, .inr (6, [.int ((0 : Int32)), .ref a_t_text, .int v_t_textSize, .int v_t_place, .ref a_t_readPage, .ref a_t_page, .ref a_t_trial, .ref a_t_work, .ref a_t_book, .int v_t_doings, .ref a_t_kept, .ref a_t_isKept, .int v_t_seen, .ref a_t_seenWhat, .ref a_t_seenV, .ref a_t_seenIs, .long v_t_seed, .ref a_t_label, .ref a_t_finds, .ref a_t_reason, .ref a_t_caseFirst, .int v_t_cases, .ref a_t_brief, .ref a_t_printed, .int v_t_printedSize, .ref a_t_renamed, .ref a_t_worth, .int v_t_lastReason])), (a_t_text, .inl (cI, 120, .inl r_t_text))] H) _ hS => ?_)
  refine lv_iload_n hx hb dX7_write_5 rfl (lv_at hl 1 rfl) ?_
  refine lv_i2l hx hb dX7_write_6 rfl ?_
  refine lv_lconst (v := 0) hx hb dX7_write_7 (by decide) ?_
  refine lv_ldc2 hx hb hown kl_84 dX7_write_8 ?_
  obtain ⟨ru1, hu1, hf⟩ := pn_bd1_at hf
  refine pn_calli [] (va_runS (As := [.long p1.toInt64, .long (0 : Int64), .long (255 : Int64)]) (rest := []) ⟨hx, hb, hml, hown, hts⟩ (c_X7_in l D cI cJ cZ H.size p1.toInt64 (0 : Int64) (255 : Int64) ru1 hu1) (va_cwS 3 hts gX7_write_X7_in rfl rfl rfl hdX7_in ⟨Nat.le_of_ble_eq_true rfl, Nat.le_of_ble_eq_true rfl⟩) (pn_preS [] hP (hD.addr rfl) hK rfl rfl) rfl rfl hl.1 rfl (lv_room (Nat.le_of_ble_eq_true rfl)) dX7_write_11 ⟨Nat.zero_le _, Nat.zero_le _⟩) hP (hD.addr rfl) hS hA rfl rfl rfl (fun H locs (hP : va_P D vwCl [(a_t, .inr (6, [.int ((0 : Int32)), .ref a_t_text, .int v_t_textSize, .int v_t_place, .ref a_t_readPage, .ref a_t_page, .ref a_t_trial, .ref a_t_work, .ref a_t_book, .int v_t_doings, .ref a_t_kept, .ref a_t_isKept, .int v_t_seen, .ref a_t_seenWhat, .ref a_t_seenV, .ref a_t_seenIs, .long v_t_seed, .ref a_t_label, .ref a_t_finds, .ref a_t_reason, .ref a_t_caseFirst, .int v_t_cases, .ref a_t_brief, .ref a_t_printed, .int v_t_printedSize, .ref a_t_renamed, .ref a_t_worth, .int v_t_lastReason])), (a_t_text, .inl (cI, 120, .inl r_t_text))] H) _ hS => ?_)
  refine lv_if_ne (tgt := 20) hx hb dX7_write_14 (by decide) (fun c2 => ?_) (fun c2 => ?_)
  · have hf := pn_ifp c2 hf
    refine lv_aload_n hx hb dX7_write_20 rfl (lv_at hl 0 rfl) ?_
    refine va_get (D := D) (ci := 6) (v := .int v_t_textSize) (C := RX7) (T := TX7) (N := 28) hx hb hts hinX7 hown hK.1 hP 0 rfl rfl 2 (by decide) fl_86 (fun _ h9 => h9) rfl dX7_write_21 ?_
    refine lv_bipush (v := (120)) hx hb dX7_write_24 (by decide) ?_
    refine lv_icmp_ne (tgt := 32) hx hb dX7_write_26 (by decide) (fun c3 => ?_) (fun c3 => ?_)
    · have hf := pn_ifp c3 hf
      refine lv_aload_n hx hb dX7_write_32 rfl (lv_at hl 0 rfl) ?_
      refine va_get (D := D) (ci := 6) (v := .ref a_t_text) (C := RX7) (T := TX7) (N := 28) hx hb hts hinX7 hown hK.1 hP 0 rfl rfl 1 (by decide) fl_7 (fun _ h9 => h9) rfl dX7_write_33 ?_
      refine lv_aload_n hx hb dX7_write_36 rfl (lv_at hl 0 rfl) ?_
      refine va_get (D := D) (ci := 6) (v := .int v_t_textSize) (C := RX7) (T := TX7) (N := 28) hx hb hts hinX7 hown hK.1 hP 0 rfl rfl 2 (by decide) fl_86 (fun _ h9 => h9) rfl dX7_write_37 ?_
      refine lv_iload_n hx hb dX7_write_40 rfl (lv_at hl 1 rfl) ?_
      obtain ⟨hi5, g4, eg4, hf⟩ := pn_wrI_at hf
      refine pn_stI hx hb hK.1 hP (hD.addr rfl) hS 1 0 rfl rfl hi5 eg4 dX7_write_41 (fun H locs (hP : va_P D vwCl [(a_t, .inr (6, [.int ((0 : Int32)), .ref a_t_text, .int v_t_textSize, .int v_t_place, .ref a_t_readPage, .ref a_t_page, .ref a_t_trial, .ref a_t_work, .ref a_t_book, .int v_t_doings, .ref a_t_kept, .ref a_t_isKept, .int v_t_seen, .ref a_t_seenWhat, .ref a_t_seenV, .ref a_t_seenIs, .long v_t_seed, .ref a_t_label, .ref a_t_finds, .ref a_t_reason, .ref a_t_caseFirst, .int v_t_cases, .ref a_t_brief, .ref a_t_printed, .int v_t_printedSize, .ref a_t_renamed, .ref a_t_worth, .int v_t_lastReason])), (a_t_text, .inl (cI, 120, .inl g4))] H) _ hS => ?_)
      refine lv_aload_n hx hb dX7_write_42 rfl (lv_at hl 0 rfl) ?_
      refine lv_dup hx hb dX7_write_43 rfl ?_
      refine va_get (D := D) (ci := 6) (v := .int v_t_textSize) (C := RX7) (T := TX7) (N := 28) hx hb hts hinX7 hown hK.1 hP 0 rfl rfl 2 (by decide) fl_86 (fun _ h9 => h9) rfl dX7_write_44 ?_
      refine lv_iconst (v := (1)) hx hb dX7_write_47 (by decide) ?_
      refine lv_iadd hx hb dX7_write_48 ?_
      refine lv_topi (fun z6 ez6 => ?_)
      have hf := pn_nm_at ez6 hf
      refine va_put (D := D) (ci := 6) (v := .int z6) (ty := .int) (C := RX7) (T := TX7) (N := 28) hx hb hts hinX7 tyX7 tyX7_ok nmX7 hown hK.1 hP (hD.addr rfl) hS 0 rfl rfl 2 (by decide) fl_86 (fun _ h9 => h9) rfl (by decide +kernel) rfl rfl (Nat.le_of_ble_eq_true rfl) dX7_write_49 (fun H locs (hP : va_P D vwCl [(a_t, .inr (6, [.int ((0 : Int32)), .ref a_t_text, .int z6, .int v_t_place, .ref a_t_readPage, .ref a_t_page, .ref a_t_trial, .ref a_t_work, .ref a_t_book, .int v_t_doings, .ref a_t_kept, .ref a_t_isKept, .int v_t_seen, .ref a_t_seenWhat, .ref a_t_seenV, .ref a_t_seenIs, .long v_t_seed, .ref a_t_label, .ref a_t_finds, .ref a_t_reason, .ref a_t_caseFirst, .int v_t_cases, .ref a_t_brief, .ref a_t_printed, .int v_t_printedSize, .ref a_t_renamed, .ref a_t_worth, .int v_t_lastReason])), (a_t_text, .inl (cI, 120, .inl g4))] H) _ hS => ?_)
      refine lv_aload_n hx hb dX7_write_52 rfl (lv_at hl 0 rfl) ?_
      refine va_get (D := D) (ci := 6) (v := .int z6) (C := RX7) (T := TX7) (N := 28) hx hb hts hinX7 hown hK.1 hP 0 rfl rfl 2 (by decide) fl_86 (fun _ h9 => h9) rfl dX7_write_53 ?_
      cases hf
      rw [hQ]
      exact pn_reti hx hb hr hlocks hP hS rfl dX7_write_56
    · have hf := pn_ifq c3 hf
      refine lv_bipush (v := (-4)) hx hb dX7_write_29 (by decide) ?_
      cases hf
      rw [hQ]
      exact pn_reti hx hb hr hlocks hP hS rfl dX7_write_31
  · have hf := pn_ifq c2 hf
    refine lv_bipush (v := (-2)) hx hb dX7_write_17 (by decide) ?_
    cases hf
    rw [hQ]
    exact pn_reti hx hb hr hlocks hP hS rfl dX7_write_19
def f_X7_wipe (v_t_thrown : Int32) (v_t_textSize : Int32) : Option (Int32 × Int32 × Int32) :=
  some (v_t_textSize, (0 : Int32), (0 : Int32))
set_option maxHeartbeats 4000000 in
set_option maxRecDepth 100000 in
theorem c_X7_wipe (l : Launch) (D : va_G) (cI cJ cZ : ClassId) (a_t a_t_text a_t_readPage a_t_page a_t_trial a_t_work a_t_book a_t_kept a_t_isKept a_t_seenWhat a_t_seenV a_t_seenIs a_t_label a_t_finds a_t_reason a_t_caseFirst a_t_brief a_t_printed a_t_renamed a_t_worth : Nat) (sz : Nat) (v_t_place : Int32) (v_t_doings : Int32) (v_t_seen : Int32) (v_t_seed : Int64) (v_t_cases : Int32) (v_t_printedSize : Int32) (v_t_lastReason : Int32) (v_t_thrown : Int32) (v_t_textSize : Int32) (rR : Int32) (o_t_thrown : Int32) (o_t_textSize : Int32) (hf : f_X7_wipe v_t_thrown v_t_textSize = some (rR, o_t_thrown, o_t_textSize)) : Met l yX7_wipe wsX7_wipe { frames := 0, cells := 0, slots := 0, locals := 0 } (pn_Pc D cI cJ cZ [.ref a_t] [(a_t, .inr (6, [.int v_t_thrown, .ref a_t_text, .int v_t_textSize, .int v_t_place, .ref a_t_readPage, .ref a_t_page, .ref a_t_trial, .ref a_t_work, .ref a_t_book, .int v_t_doings, .ref a_t_kept, .ref a_t_isKept, .int v_t_seen, .ref a_t_seenWhat, .ref a_t_seenV, .ref a_t_seenIs, .long v_t_seed, .ref a_t_label, .ref a_t_finds, .ref a_t_reason, .ref a_t_caseFirst, .int v_t_cases, .ref a_t_brief, .ref a_t_printed, .int v_t_printedSize, .ref a_t_renamed, .ref a_t_worth, .int v_t_lastReason]))] sz) (pn_Qi D rR [(a_t, .inr (6, [.int o_t_thrown, .ref a_t_text, .int o_t_textSize, .int v_t_place, .ref a_t_readPage, .ref a_t_page, .ref a_t_trial, .ref a_t_work, .ref a_t_book, .int v_t_doings, .ref a_t_kept, .ref a_t_isKept, .int v_t_seen, .ref a_t_seenWhat, .ref a_t_seenV, .ref a_t_seenIs, .long v_t_seed, .ref a_t_label, .ref a_t_finds, .ref a_t_reason, .ref a_t_caseFirst, .int v_t_cases, .ref a_t_brief, .ref a_t_printed, .int v_t_printedSize, .ref a_t_renamed, .ref a_t_worth, .int v_t_lastReason]))] (va_A [(a_t, .inr (6, [.int v_t_thrown, .ref a_t_text, .int v_t_textSize, .int v_t_place, .ref a_t_readPage, .ref a_t_page, .ref a_t_trial, .ref a_t_work, .ref a_t_book, .int v_t_doings, .ref a_t_kept, .ref a_t_isKept, .int v_t_seen, .ref a_t_seenWhat, .ref a_t_seenV, .ref a_t_seenIs, .long v_t_seed, .ref a_t_label, .ref a_t_finds, .ref a_t_reason, .ref a_t_caseFirst, .int v_t_cases, .ref a_t_brief, .ref a_t_printed, .int v_t_printedSize, .ref a_t_renamed, .ref a_t_worth, .int v_t_lastReason]))] sz)) 0 0 (va_A [(a_t, .inr (6, [.int v_t_thrown, .ref a_t_text, .int v_t_textSize, .int v_t_place, .ref a_t_readPage, .ref a_t_page, .ref a_t_trial, .ref a_t_work, .ref a_t_book, .int v_t_doings, .ref a_t_kept, .ref a_t_isKept, .int v_t_seen, .ref a_t_seenWhat, .ref a_t_seenV, .ref a_t_seenIs, .long v_t_seed, .ref a_t_label, .ref a_t_finds, .ref a_t_reason, .ref a_t_caseFirst, .int v_t_cases, .ref a_t_brief, .ref a_t_printed, .int v_t_printedSize, .ref a_t_renamed, .ref a_t_worth, .int v_t_lastReason]))] sz) := by
  refine pn_entry (cc := cX7_wipe) (maxL := 2) (ret := (some .int)) (Qf := pn_Qi D rR [(a_t, .inr (6, [.int o_t_thrown, .ref a_t_text, .int o_t_textSize, .int v_t_place, .ref a_t_readPage, .ref a_t_page, .ref a_t_trial, .ref a_t_work, .ref a_t_book, .int v_t_doings, .ref a_t_kept, .ref a_t_isKept, .int v_t_seen, .ref a_t_seenWhat, .ref a_t_seenV, .ref a_t_seenIs, .long v_t_seed, .ref a_t_label, .ref a_t_finds, .ref a_t_reason, .ref a_t_caseFirst, .int v_t_cases, .ref a_t_brief, .ref a_t_printed, .int v_t_printedSize, .ref a_t_renamed, .ref a_t_worth, .int v_t_lastReason]))]) (by decide) rfl (Nat.le_of_ble_eq_true rfl) ?_
  intro p e s m args below meth c A ls H locs Qm hQ hx hb hr hlocks hml hown hts hK hP hD hA hS hl
  have hl : lv_has ls 2 [(0, .ref a_t)] := hl
  have hinX7 : ∀ w ∈ wsX70, w ∈ wsX7_wipe := by decide +kernel
  have fl_68 := hts (.fieldLink RX7 68 "PointingNotesModel" "thrown" "I") (by decide +kernel)
  have fl_86 := hts (.fieldLink RX7 86 "PointingNotesModel" "textSize" "I") (by decide +kernel)
  rw [f_X7_wipe] at hf
  refine lv_aload_n hx hb dX7_wipe_0 rfl (lv_at hl 0 rfl) ?_
  refine lv_iconst (v := (0)) hx hb dX7_wipe_1 (by decide) ?_
  refine va_put (D := D) (ci := 6) (v := .int (0 : Int32)) (ty := .int) (C := RX7) (T := TX7) (N := 28) hx hb hts hinX7 tyX7 tyX7_ok nmX7 hown hK.1 hP (hD.addr rfl) hS 0 rfl rfl 0 (by decide) fl_68 (fun _ h9 => h9) rfl (by decide +kernel) rfl rfl (Nat.le_of_ble_eq_true rfl) dX7_wipe_2 (fun H locs (hP : va_P D vwCl [(a_t, .inr (6, [.int ((0 : Int32)), .ref a_t_text, .int v_t_textSize, .int v_t_place, .ref a_t_readPage, .ref a_t_page, .ref a_t_trial, .ref a_t_work, .ref a_t_book, .int v_t_doings, .ref a_t_kept, .ref a_t_isKept, .int v_t_seen, .ref a_t_seenWhat, .ref a_t_seenV, .ref a_t_seenIs, .long v_t_seed, .ref a_t_label, .ref a_t_finds, .ref a_t_reason, .ref a_t_caseFirst, .int v_t_cases, .ref a_t_brief, .ref a_t_printed, .int v_t_printedSize, .ref a_t_renamed, .ref a_t_worth, .int v_t_lastReason]))] H) _ hS => ?_)
  refine lv_aload_n hx hb dX7_wipe_5 rfl (lv_at hl 0 rfl) ?_
  refine va_get (D := D) (ci := 6) (v := .int v_t_textSize) (C := RX7) (T := TX7) (N := 28) hx hb hts hinX7 hown hK.1 hP 0 rfl rfl 2 (by decide) fl_86 (fun _ h9 => h9) rfl dX7_wipe_6 ?_
  refine lv_istore_n (lv' := [(1, .int v_t_textSize), (0, .ref a_t)]) hx hb dX7_wipe_9 rfl hl (by decide) rfl (fun ls hl => ?_)
  refine lv_aload_n hx hb dX7_wipe_10 rfl (lv_at hl 1 rfl) ?_
  refine lv_iconst (v := (0)) hx hb dX7_wipe_11 (by decide) ?_
  refine va_put (D := D) (ci := 6) (v := .int (0 : Int32)) (ty := .int) (C := RX7) (T := TX7) (N := 28) hx hb hts hinX7 tyX7 tyX7_ok nmX7 hown hK.1 hP (hD.addr rfl) hS 0 rfl rfl 2 (by decide) fl_86 (fun _ h9 => h9) rfl (by decide +kernel) rfl rfl (Nat.le_of_ble_eq_true rfl) dX7_wipe_12 (fun H locs (hP : va_P D vwCl [(a_t, .inr (6, [.int ((0 : Int32)), .ref a_t_text, .int ((0 : Int32)), .int v_t_place, .ref a_t_readPage, .ref a_t_page, .ref a_t_trial, .ref a_t_work, .ref a_t_book, .int v_t_doings, .ref a_t_kept, .ref a_t_isKept, .int v_t_seen, .ref a_t_seenWhat, .ref a_t_seenV, .ref a_t_seenIs, .long v_t_seed, .ref a_t_label, .ref a_t_finds, .ref a_t_reason, .ref a_t_caseFirst, .int v_t_cases, .ref a_t_brief, .ref a_t_printed, .int v_t_printedSize, .ref a_t_renamed, .ref a_t_worth, .int v_t_lastReason]))] H) _ hS => ?_)
  refine lv_iload_n hx hb dX7_wipe_15 rfl (lv_at hl 0 rfl) ?_
  cases hf
  rw [hQ]
  exact pn_reti hx hb hr hlocks hP hS rfl dX7_wipe_16
def f_X7_next (v_t_textSize : Int32) (v_t_place : Int32) (r_t_text : Nat → Int32) : Option (Int32) :=
  if v_t_textSize ≤ v_t_place then
  some (-9 : Int32)
  else
  pn_rd 120 r_t_text v_t_place fun w2 =>
  some w2
set_option maxHeartbeats 4000000 in
set_option maxRecDepth 100000 in
theorem c_X7_next (l : Launch) (D : va_G) (cI cJ cZ : ClassId) (a_t a_t_text a_t_readPage a_t_page a_t_trial a_t_work a_t_book a_t_kept a_t_isKept a_t_seenWhat a_t_seenV a_t_seenIs a_t_label a_t_finds a_t_reason a_t_caseFirst a_t_brief a_t_printed a_t_renamed a_t_worth : Nat) (sz : Nat) (v_t_thrown : Int32) (v_t_doings : Int32) (v_t_seen : Int32) (v_t_seed : Int64) (v_t_cases : Int32) (v_t_printedSize : Int32) (v_t_lastReason : Int32) (v_t_textSize : Int32) (v_t_place : Int32) (r_t_text : Nat → Int32) (rR : Int32) (hf : f_X7_next v_t_textSize v_t_place r_t_text = some rR) : Met l yX7_next wsX7_next { frames := 0, cells := 0, slots := 0, locals := 0 } (pn_Pc D cI cJ cZ [.ref a_t] [(a_t, .inr (6, [.int v_t_thrown, .ref a_t_text, .int v_t_textSize, .int v_t_place, .ref a_t_readPage, .ref a_t_page, .ref a_t_trial, .ref a_t_work, .ref a_t_book, .int v_t_doings, .ref a_t_kept, .ref a_t_isKept, .int v_t_seen, .ref a_t_seenWhat, .ref a_t_seenV, .ref a_t_seenIs, .long v_t_seed, .ref a_t_label, .ref a_t_finds, .ref a_t_reason, .ref a_t_caseFirst, .int v_t_cases, .ref a_t_brief, .ref a_t_printed, .int v_t_printedSize, .ref a_t_renamed, .ref a_t_worth, .int v_t_lastReason])), (a_t_text, .inl (cI, 120, .inl r_t_text))] sz) (pn_Qi D rR [(a_t, .inr (6, [.int v_t_thrown, .ref a_t_text, .int v_t_textSize, .int v_t_place, .ref a_t_readPage, .ref a_t_page, .ref a_t_trial, .ref a_t_work, .ref a_t_book, .int v_t_doings, .ref a_t_kept, .ref a_t_isKept, .int v_t_seen, .ref a_t_seenWhat, .ref a_t_seenV, .ref a_t_seenIs, .long v_t_seed, .ref a_t_label, .ref a_t_finds, .ref a_t_reason, .ref a_t_caseFirst, .int v_t_cases, .ref a_t_brief, .ref a_t_printed, .int v_t_printedSize, .ref a_t_renamed, .ref a_t_worth, .int v_t_lastReason])), (a_t_text, .inl (cI, 120, .inl r_t_text))] (va_A [(a_t, .inr (6, [.int v_t_thrown, .ref a_t_text, .int v_t_textSize, .int v_t_place, .ref a_t_readPage, .ref a_t_page, .ref a_t_trial, .ref a_t_work, .ref a_t_book, .int v_t_doings, .ref a_t_kept, .ref a_t_isKept, .int v_t_seen, .ref a_t_seenWhat, .ref a_t_seenV, .ref a_t_seenIs, .long v_t_seed, .ref a_t_label, .ref a_t_finds, .ref a_t_reason, .ref a_t_caseFirst, .int v_t_cases, .ref a_t_brief, .ref a_t_printed, .int v_t_printedSize, .ref a_t_renamed, .ref a_t_worth, .int v_t_lastReason])), (a_t_text, .inl (cI, 120, .inl r_t_text))] sz)) 0 0 (va_A [(a_t, .inr (6, [.int v_t_thrown, .ref a_t_text, .int v_t_textSize, .int v_t_place, .ref a_t_readPage, .ref a_t_page, .ref a_t_trial, .ref a_t_work, .ref a_t_book, .int v_t_doings, .ref a_t_kept, .ref a_t_isKept, .int v_t_seen, .ref a_t_seenWhat, .ref a_t_seenV, .ref a_t_seenIs, .long v_t_seed, .ref a_t_label, .ref a_t_finds, .ref a_t_reason, .ref a_t_caseFirst, .int v_t_cases, .ref a_t_brief, .ref a_t_printed, .int v_t_printedSize, .ref a_t_renamed, .ref a_t_worth, .int v_t_lastReason])), (a_t_text, .inl (cI, 120, .inl r_t_text))] sz) := by
  refine pn_entry (cc := cX7_next) (maxL := 1) (ret := (some .int)) (Qf := pn_Qi D rR [(a_t, .inr (6, [.int v_t_thrown, .ref a_t_text, .int v_t_textSize, .int v_t_place, .ref a_t_readPage, .ref a_t_page, .ref a_t_trial, .ref a_t_work, .ref a_t_book, .int v_t_doings, .ref a_t_kept, .ref a_t_isKept, .int v_t_seen, .ref a_t_seenWhat, .ref a_t_seenV, .ref a_t_seenIs, .long v_t_seed, .ref a_t_label, .ref a_t_finds, .ref a_t_reason, .ref a_t_caseFirst, .int v_t_cases, .ref a_t_brief, .ref a_t_printed, .int v_t_printedSize, .ref a_t_renamed, .ref a_t_worth, .int v_t_lastReason])), (a_t_text, .inl (cI, 120, .inl r_t_text))]) (by decide) rfl (Nat.le_of_ble_eq_true rfl) ?_
  intro p e s m args below meth c A ls H locs Qm hQ hx hb hr hlocks hml hown hts hK hP hD hA hS hl
  have hl : lv_has ls 1 [(0, .ref a_t)] := hl
  have hinX7 : ∀ w ∈ wsX70, w ∈ wsX7_next := by decide +kernel
  have fl_7 := hts (.fieldLink RX7 7 "PointingNotesModel" "text" "[I") (by decide +kernel)
  have fl_86 := hts (.fieldLink RX7 86 "PointingNotesModel" "textSize" "I") (by decide +kernel)
  have fl_89 := hts (.fieldLink RX7 89 "PointingNotesModel" "place" "I") (by decide +kernel)
  rw [f_X7_next] at hf
  refine lv_aload_n hx hb dX7_next_0 rfl (lv_at hl 0 rfl) ?_
  refine va_get (D := D) (ci := 6) (v := .int v_t_place) (C := RX7) (T := TX7) (N := 28) hx hb hts hinX7 hown hK.1 hP 0 rfl rfl 3 (by decide) fl_89 (fun _ h9 => h9) rfl dX7_next_1 ?_
  refine lv_aload_n hx hb dX7_next_4 rfl (lv_at hl 0 rfl) ?_
  refine va_get (D := D) (ci := 6) (v := .int v_t_textSize) (C := RX7) (T := TX7) (N := 28) hx hb hts hinX7 hown hK.1 hP 0 rfl rfl 2 (by decide) fl_86 (fun _ h9 => h9) rfl dX7_next_5 ?_
  refine lv_icmp_ge (tgt := 23) hx hb dX7_next_8 (by decide) (fun c1 => ?_) (fun c1 => ?_)
  · have hf := pn_ifp c1 hf
    refine lv_bipush (v := (-9)) hx hb dX7_next_23 (by decide) ?_
    cases hf
    rw [hQ]
    exact pn_reti hx hb hr hlocks hP hS rfl dX7_next_25
  · have hf := pn_ifn c1 hf
    refine lv_aload_n hx hb dX7_next_11 rfl (lv_at hl 0 rfl) ?_
    refine va_get (D := D) (ci := 6) (v := .ref a_t_text) (C := RX7) (T := TX7) (N := 28) hx hb hts hinX7 hown hK.1 hP 0 rfl rfl 1 (by decide) fl_7 (fun _ h9 => h9) rfl dX7_next_12 ?_
    refine lv_aload_n hx hb dX7_next_15 rfl (lv_at hl 0 rfl) ?_
    refine va_get (D := D) (ci := 6) (v := .int v_t_place) (C := RX7) (T := TX7) (N := 28) hx hb hts hinX7 hown hK.1 hP 0 rfl rfl 3 (by decide) fl_89 (fun _ h9 => h9) rfl dX7_next_16 ?_
    obtain ⟨hi3, w2, ew2, hf⟩ := pn_rd_at hf
    refine pn_ldI hx hb hK.1 hP 1 0 rfl rfl hi3 ew2 dX7_next_19 ?_
    refine lv_goto (tgt := 25) hx hb dX7_next_20 (by decide) ?_
    cases hf
    rw [hQ]
    exact pn_reti hx hb hr hlocks hP hS rfl dX7_next_25
def f_X7_take (v_t_textSize : Int32) (v_t_place : Int32) (r_t_text : Nat → Int32) (p1 : Int32) (p2 : Int32) (p3 : Int32) : Option (Int32 × Int32) :=
  pn_bd1 (f_X7_next v_t_textSize v_t_place r_t_text) fun ru1 =>
  pn_nm (ru1 - p1) fun z2 =>
  if v_t_place = v_t_textSize then
  some ((-9 : Int32), v_t_place)
  else
  pn_bd1 (f_X7_in z2.toInt64 p2.toInt64 p3.toInt64) fun ru4 =>
  if ¬ ru4 = 0 then
  pn_nm (v_t_place + (1 : Int32)) fun z6 =>
  some (z2, z6)
  else
  some ((-9 : Int32), v_t_place)
set_option maxHeartbeats 4000000 in
set_option maxRecDepth 100000 in
theorem c_X7_take (l : Launch) (D : va_G) (cI cJ cZ : ClassId) (a_t a_t_text a_t_readPage a_t_page a_t_trial a_t_work a_t_book a_t_kept a_t_isKept a_t_seenWhat a_t_seenV a_t_seenIs a_t_label a_t_finds a_t_reason a_t_caseFirst a_t_brief a_t_printed a_t_renamed a_t_worth : Nat) (sz : Nat) (v_t_thrown : Int32) (v_t_doings : Int32) (v_t_seen : Int32) (v_t_seed : Int64) (v_t_cases : Int32) (v_t_printedSize : Int32) (v_t_lastReason : Int32) (v_t_textSize : Int32) (v_t_place : Int32) (r_t_text : Nat → Int32) (p1 : Int32) (p2 : Int32) (p3 : Int32) (rR : Int32) (o_t_place : Int32) (hf : f_X7_take v_t_textSize v_t_place r_t_text p1 p2 p3 = some (rR, o_t_place)) : Met l yX7_take wsX7_take { frames := 1, cells := 0, slots := 0, locals := 25 } (pn_Pc D cI cJ cZ [.ref a_t, .int p1, .int p2, .int p3] [(a_t, .inr (6, [.int v_t_thrown, .ref a_t_text, .int v_t_textSize, .int v_t_place, .ref a_t_readPage, .ref a_t_page, .ref a_t_trial, .ref a_t_work, .ref a_t_book, .int v_t_doings, .ref a_t_kept, .ref a_t_isKept, .int v_t_seen, .ref a_t_seenWhat, .ref a_t_seenV, .ref a_t_seenIs, .long v_t_seed, .ref a_t_label, .ref a_t_finds, .ref a_t_reason, .ref a_t_caseFirst, .int v_t_cases, .ref a_t_brief, .ref a_t_printed, .int v_t_printedSize, .ref a_t_renamed, .ref a_t_worth, .int v_t_lastReason])), (a_t_text, .inl (cI, 120, .inl r_t_text))] sz) (pn_Qi D rR [(a_t, .inr (6, [.int v_t_thrown, .ref a_t_text, .int v_t_textSize, .int o_t_place, .ref a_t_readPage, .ref a_t_page, .ref a_t_trial, .ref a_t_work, .ref a_t_book, .int v_t_doings, .ref a_t_kept, .ref a_t_isKept, .int v_t_seen, .ref a_t_seenWhat, .ref a_t_seenV, .ref a_t_seenIs, .long v_t_seed, .ref a_t_label, .ref a_t_finds, .ref a_t_reason, .ref a_t_caseFirst, .int v_t_cases, .ref a_t_brief, .ref a_t_printed, .int v_t_printedSize, .ref a_t_renamed, .ref a_t_worth, .int v_t_lastReason])), (a_t_text, .inl (cI, 120, .inl r_t_text))] (va_A [(a_t, .inr (6, [.int v_t_thrown, .ref a_t_text, .int v_t_textSize, .int v_t_place, .ref a_t_readPage, .ref a_t_page, .ref a_t_trial, .ref a_t_work, .ref a_t_book, .int v_t_doings, .ref a_t_kept, .ref a_t_isKept, .int v_t_seen, .ref a_t_seenWhat, .ref a_t_seenV, .ref a_t_seenIs, .long v_t_seed, .ref a_t_label, .ref a_t_finds, .ref a_t_reason, .ref a_t_caseFirst, .int v_t_cases, .ref a_t_brief, .ref a_t_printed, .int v_t_printedSize, .ref a_t_renamed, .ref a_t_worth, .int v_t_lastReason])), (a_t_text, .inl (cI, 120, .inl r_t_text))] sz)) 0 0 (va_A [(a_t, .inr (6, [.int v_t_thrown, .ref a_t_text, .int v_t_textSize, .int v_t_place, .ref a_t_readPage, .ref a_t_page, .ref a_t_trial, .ref a_t_work, .ref a_t_book, .int v_t_doings, .ref a_t_kept, .ref a_t_isKept, .int v_t_seen, .ref a_t_seenWhat, .ref a_t_seenV, .ref a_t_seenIs, .long v_t_seed, .ref a_t_label, .ref a_t_finds, .ref a_t_reason, .ref a_t_caseFirst, .int v_t_cases, .ref a_t_brief, .ref a_t_printed, .int v_t_printedSize, .ref a_t_renamed, .ref a_t_worth, .int v_t_lastReason])), (a_t_text, .inl (cI, 120, .inl r_t_text))] sz) := by
  refine pn_entry (cc := cX7_take) (maxL := 5) (ret := (some .int)) (Qf := pn_Qi D rR [(a_t, .inr (6, [.int v_t_thrown, .ref a_t_text, .int v_t_textSize, .int o_t_place, .ref a_t_readPage, .ref a_t_page, .ref a_t_trial, .ref a_t_work, .ref a_t_book, .int v_t_doings, .ref a_t_kept, .ref a_t_isKept, .int v_t_seen, .ref a_t_seenWhat, .ref a_t_seenV, .ref a_t_seenIs, .long v_t_seed, .ref a_t_label, .ref a_t_finds, .ref a_t_reason, .ref a_t_caseFirst, .int v_t_cases, .ref a_t_brief, .ref a_t_printed, .int v_t_printedSize, .ref a_t_renamed, .ref a_t_worth, .int v_t_lastReason])), (a_t_text, .inl (cI, 120, .inl r_t_text))]) (by decide) rfl (Nat.le_of_ble_eq_true rfl) ?_
  intro p e s m args below meth c A ls H locs Qm hQ hx hb hr hlocks hml hown hts hK hP hD hA hS hl
  have hl : lv_has ls 5 [(0, .ref a_t), (1, .int p1), (2, .int p2), (3, .int p3)] := hl
  have hinX7 : ∀ w ∈ wsX70, w ∈ wsX7_take := by decide +kernel
  have fl_86 := hts (.fieldLink RX7 86 "PointingNotesModel" "textSize" "I") (by decide +kernel)
  have fl_89 := hts (.fieldLink RX7 89 "PointingNotesModel" "place" "I") (by decide +kernel)
  rw [f_X7_take] at hf
  refine lv_aload_n hx hb dX7_take_0 rfl (lv_at hl 0 rfl) ?_
  obtain ⟨ru1, hu1, hf⟩ := pn_bd1_at hf
  refine pn_calli [0, 1] (va_runV (As := []) (rest := []) ⟨hx, hb, hml, hown, hts⟩ (c_X7_next l D cI cJ cZ a_t a_t_text a_t_readPage a_t_page a_t_trial a_t_work a_t_book a_t_kept a_t_isKept a_t_seenWhat a_t_seenV a_t_seenIs a_t_label a_t_finds a_t_reason a_t_caseFirst a_t_brief a_t_printed a_t_renamed a_t_worth H.size v_t_thrown v_t_doings v_t_seen v_t_seed v_t_cases v_t_printedSize v_t_lastReason v_t_textSize v_t_place r_t_text ru1 hu1) (cwV 0 hts gX7_take_X7_next rfl rfl rfl hdX7_next ⟨Nat.le_of_ble_eq_true rfl, Nat.le_of_ble_eq_true rfl⟩) (pn_preV [0, 1] hP (hD.addr rfl) hK rfl rfl (q0 := 0) (ci := 6) rfl rfl) rfl rfl hl.1 rfl (lv_room (Nat.le_of_ble_eq_true rfl)) dX7_take_1 ⟨Nat.zero_le _, Nat.zero_le _⟩) hP (hD.addr rfl) hS hA rfl rfl rfl (fun H locs (hP : va_P D vwCl [(a_t, .inr (6, [.int v_t_thrown, .ref a_t_text, .int v_t_textSize, .int v_t_place, .ref a_t_readPage, .ref a_t_page, .ref a_t_trial, .ref a_t_work, .ref a_t_book, .int v_t_doings, .ref a_t_kept, .ref a_t_isKept, .int v_t_seen, .ref a_t_seenWhat, .ref a_t_seenV, .ref a_t_seenIs, .long v_t_seed, .ref a_t_label, .ref a_t_finds, .ref a_t_reason, .ref a_t_caseFirst, .int v_t_cases, .ref a_t_brief, .ref a_t_printed, .int v_t_printedSize, .ref a_t_renamed, .ref a_t_worth, .int v_t_lastReason])), (a_t_text, .inl (cI, 120, .inl r_t_text))] H) _ hS => ?_)
  refine lv_iload_n hx hb dX7_take_4 rfl (lv_at hl 1 rfl) ?_
  refine lv_isub hx hb dX7_take_5 ?_
  refine lv_topi (fun z2 ez2 => ?_)
  have hf := pn_nm_at ez2 hf
  refine lv_istore (lv' := [(4, .int z2), (0, .ref a_t), (1, .int p1), (2, .int p2), (3, .int p3)]) hx hb dX7_take_6 hl (by decide) rfl (fun ls hl => ?_)
  refine lv_aload_n hx hb dX7_take_8 rfl (lv_at hl 1 rfl) ?_
  refine va_get (D := D) (ci := 6) (v := .int v_t_place) (C := RX7) (T := TX7) (N := 28) hx hb hts hinX7 hown hK.1 hP 0 rfl rfl 3 (by decide) fl_89 (fun _ h9 => h9) rfl dX7_take_9 ?_
  refine lv_aload_n hx hb dX7_take_12 rfl (lv_at hl 1 rfl) ?_
  refine va_get (D := D) (ci := 6) (v := .int v_t_textSize) (C := RX7) (T := TX7) (N := 28) hx hb hts hinX7 hown hK.1 hP 0 rfl rfl 2 (by decide) fl_86 (fun _ h9 => h9) rfl dX7_take_13 ?_
  refine lv_icmp_eq (tgt := 32) hx hb dX7_take_16 (by decide) (fun c3 => ?_) (fun c3 => ?_)
  · have hf := pn_ifp c3 hf
    refine lv_bipush (v := (-9)) hx hb dX7_take_32 (by decide) ?_
    cases hf
    rw [hQ]
    exact pn_reti hx hb hr hlocks hP hS rfl dX7_take_34
  · have hf := pn_ifn c3 hf
    refine lv_iload hx hb dX7_take_19 (lv_at hl 0 rfl) ?_
    refine lv_i2l hx hb dX7_take_21 rfl ?_
    refine lv_iload_n hx hb dX7_take_22 rfl (lv_at hl 3 rfl) ?_
    refine lv_i2l hx hb dX7_take_23 rfl ?_
    refine lv_iload_n hx hb dX7_take_24 rfl (lv_at hl 4 rfl) ?_
    refine lv_i2l hx hb dX7_take_25 rfl ?_
    obtain ⟨ru4, hu4, hf⟩ := pn_bd1_at hf
    refine pn_calli [] (va_runS (As := [.long z2.toInt64, .long p2.toInt64, .long p3.toInt64]) (rest := []) ⟨hx, hb, hml, hown, hts⟩ (c_X7_in l D cI cJ cZ H.size z2.toInt64 p2.toInt64 p3.toInt64 ru4 hu4) (va_cwS 3 hts gX7_take_X7_in rfl rfl rfl hdX7_in ⟨Nat.le_of_ble_eq_true rfl, Nat.le_of_ble_eq_true rfl⟩) (pn_preS [] hP (hD.addr rfl) hK rfl rfl) rfl rfl hl.1 rfl (lv_room (Nat.le_of_ble_eq_true rfl)) dX7_take_26 ⟨Nat.zero_le _, Nat.zero_le _⟩) hP (hD.addr rfl) hS hA rfl rfl rfl (fun H locs (hP : va_P D vwCl [(a_t, .inr (6, [.int v_t_thrown, .ref a_t_text, .int v_t_textSize, .int v_t_place, .ref a_t_readPage, .ref a_t_page, .ref a_t_trial, .ref a_t_work, .ref a_t_book, .int v_t_doings, .ref a_t_kept, .ref a_t_isKept, .int v_t_seen, .ref a_t_seenWhat, .ref a_t_seenV, .ref a_t_seenIs, .long v_t_seed, .ref a_t_label, .ref a_t_finds, .ref a_t_reason, .ref a_t_caseFirst, .int v_t_cases, .ref a_t_brief, .ref a_t_printed, .int v_t_printedSize, .ref a_t_renamed, .ref a_t_worth, .int v_t_lastReason])), (a_t_text, .inl (cI, 120, .inl r_t_text))] H) _ hS => ?_)
    refine lv_if_ne (tgt := 35) hx hb dX7_take_29 (by decide) (fun c5 => ?_) (fun c5 => ?_)
    · have hf := pn_ifp c5 hf
      refine lv_aload_n hx hb dX7_take_35 rfl (lv_at hl 1 rfl) ?_
      refine lv_dup hx hb dX7_take_36 rfl ?_
      refine va_get (D := D) (ci := 6) (v := .int v_t_place) (C := RX7) (T := TX7) (N := 28) hx hb hts hinX7 hown hK.1 hP 0 rfl rfl 3 (by decide) fl_89 (fun _ h9 => h9) rfl dX7_take_37 ?_
      refine lv_iconst (v := (1)) hx hb dX7_take_40 (by decide) ?_
      refine lv_iadd hx hb dX7_take_41 ?_
      refine lv_topi (fun z6 ez6 => ?_)
      have hf := pn_nm_at ez6 hf
      refine va_put (D := D) (ci := 6) (v := .int z6) (ty := .int) (C := RX7) (T := TX7) (N := 28) hx hb hts hinX7 tyX7 tyX7_ok nmX7 hown hK.1 hP (hD.addr rfl) hS 0 rfl rfl 3 (by decide) fl_89 (fun _ h9 => h9) rfl (by decide +kernel) rfl rfl (Nat.le_of_ble_eq_true rfl) dX7_take_42 (fun H locs (hP : va_P D vwCl [(a_t, .inr (6, [.int v_t_thrown, .ref a_t_text, .int v_t_textSize, .int z6, .ref a_t_readPage, .ref a_t_page, .ref a_t_trial, .ref a_t_work, .ref a_t_book, .int v_t_doings, .ref a_t_kept, .ref a_t_isKept, .int v_t_seen, .ref a_t_seenWhat, .ref a_t_seenV, .ref a_t_seenIs, .long v_t_seed, .ref a_t_label, .ref a_t_finds, .ref a_t_reason, .ref a_t_caseFirst, .int v_t_cases, .ref a_t_brief, .ref a_t_printed, .int v_t_printedSize, .ref a_t_renamed, .ref a_t_worth, .int v_t_lastReason])), (a_t_text, .inl (cI, 120, .inl r_t_text))] H) _ hS => ?_)
      refine lv_iload hx hb dX7_take_45 (lv_at hl 0 rfl) ?_
      cases hf
      rw [hQ]
      exact pn_reti hx hb hr hlocks hP hS rfl dX7_take_47
    · have hf := pn_ifq c5 hf
      refine lv_bipush (v := (-9)) hx hb dX7_take_32 (by decide) ?_
      cases hf
      rw [hQ]
      exact pn_reti hx hb hr hlocks hP hS rfl dX7_take_34
def j_X7_takePage_31 (v_t_textSize : Int32) (r_t_text : Nat → Int32) (x1 : Int32) (s1 : Int32) (s2 : Int32) (v_t_place : Int32) : Option (Int32 × Int32) :=
  pn_bd2 (f_X7_take v_t_textSize v_t_place r_t_text s1 s2 (9 : Int32)) fun ru1 v_t_place_u1 =>
  if ¬ ru1 = (-9 : Int32) then
  some (((10 : Int32) * x1) + ru1, v_t_place_u1)
  else
  some ((-9 : Int32), v_t_place_u1)
def f_X7_takePage (v_t_textSize : Int32) (v_t_place : Int32) (r_t_text : Nat → Int32) : Option (Int32 × Int32) :=
  pn_bd2 (f_X7_take v_t_textSize v_t_place r_t_text (48 : Int32) (0 : Int32) (9 : Int32)) fun ru3 v_t_place_u3 =>
  if ¬ ru3 = (-9 : Int32) then
  if ¬ ru3 = 0 then
  j_X7_takePage_31 v_t_textSize r_t_text ru3 (48 : Int32) (0 : Int32) v_t_place_u3
  else
  j_X7_takePage_31 v_t_textSize r_t_text ru3 (48 : Int32) (1 : Int32) v_t_place_u3
  else
  some ((-9 : Int32), v_t_place_u3)
set_option maxHeartbeats 4000000 in
set_option maxRecDepth 100000 in
theorem c_X7_takePage (l : Launch) (D : va_G) (cI cJ cZ : ClassId) (a_t a_t_text a_t_readPage a_t_page a_t_trial a_t_work a_t_book a_t_kept a_t_isKept a_t_seenWhat a_t_seenV a_t_seenIs a_t_label a_t_finds a_t_reason a_t_caseFirst a_t_brief a_t_printed a_t_renamed a_t_worth : Nat) (sz : Nat) (v_t_thrown : Int32) (v_t_doings : Int32) (v_t_seen : Int32) (v_t_seed : Int64) (v_t_cases : Int32) (v_t_printedSize : Int32) (v_t_lastReason : Int32) (v_t_textSize : Int32) (v_t_place : Int32) (r_t_text : Nat → Int32) (rR : Int32) (o_t_place : Int32) (hf : f_X7_takePage v_t_textSize v_t_place r_t_text = some (rR, o_t_place)) : Met l yX7_takePage wsX7_takePage { frames := 2, cells := 0, slots := 0, locals := 49 } (pn_Pc D cI cJ cZ [.ref a_t] [(a_t, .inr (6, [.int v_t_thrown, .ref a_t_text, .int v_t_textSize, .int v_t_place, .ref a_t_readPage, .ref a_t_page, .ref a_t_trial, .ref a_t_work, .ref a_t_book, .int v_t_doings, .ref a_t_kept, .ref a_t_isKept, .int v_t_seen, .ref a_t_seenWhat, .ref a_t_seenV, .ref a_t_seenIs, .long v_t_seed, .ref a_t_label, .ref a_t_finds, .ref a_t_reason, .ref a_t_caseFirst, .int v_t_cases, .ref a_t_brief, .ref a_t_printed, .int v_t_printedSize, .ref a_t_renamed, .ref a_t_worth, .int v_t_lastReason])), (a_t_text, .inl (cI, 120, .inl r_t_text))] sz) (pn_Qi D rR [(a_t, .inr (6, [.int v_t_thrown, .ref a_t_text, .int v_t_textSize, .int o_t_place, .ref a_t_readPage, .ref a_t_page, .ref a_t_trial, .ref a_t_work, .ref a_t_book, .int v_t_doings, .ref a_t_kept, .ref a_t_isKept, .int v_t_seen, .ref a_t_seenWhat, .ref a_t_seenV, .ref a_t_seenIs, .long v_t_seed, .ref a_t_label, .ref a_t_finds, .ref a_t_reason, .ref a_t_caseFirst, .int v_t_cases, .ref a_t_brief, .ref a_t_printed, .int v_t_printedSize, .ref a_t_renamed, .ref a_t_worth, .int v_t_lastReason])), (a_t_text, .inl (cI, 120, .inl r_t_text))] (va_A [(a_t, .inr (6, [.int v_t_thrown, .ref a_t_text, .int v_t_textSize, .int v_t_place, .ref a_t_readPage, .ref a_t_page, .ref a_t_trial, .ref a_t_work, .ref a_t_book, .int v_t_doings, .ref a_t_kept, .ref a_t_isKept, .int v_t_seen, .ref a_t_seenWhat, .ref a_t_seenV, .ref a_t_seenIs, .long v_t_seed, .ref a_t_label, .ref a_t_finds, .ref a_t_reason, .ref a_t_caseFirst, .int v_t_cases, .ref a_t_brief, .ref a_t_printed, .int v_t_printedSize, .ref a_t_renamed, .ref a_t_worth, .int v_t_lastReason])), (a_t_text, .inl (cI, 120, .inl r_t_text))] sz)) 0 0 (va_A [(a_t, .inr (6, [.int v_t_thrown, .ref a_t_text, .int v_t_textSize, .int v_t_place, .ref a_t_readPage, .ref a_t_page, .ref a_t_trial, .ref a_t_work, .ref a_t_book, .int v_t_doings, .ref a_t_kept, .ref a_t_isKept, .int v_t_seen, .ref a_t_seenWhat, .ref a_t_seenV, .ref a_t_seenIs, .long v_t_seed, .ref a_t_label, .ref a_t_finds, .ref a_t_reason, .ref a_t_caseFirst, .int v_t_cases, .ref a_t_brief, .ref a_t_printed, .int v_t_printedSize, .ref a_t_renamed, .ref a_t_worth, .int v_t_lastReason])), (a_t_text, .inl (cI, 120, .inl r_t_text))] sz) := by
  refine pn_entry (cc := cX7_takePage) (maxL := 3) (ret := (some .int)) (Qf := pn_Qi D rR [(a_t, .inr (6, [.int v_t_thrown, .ref a_t_text, .int v_t_textSize, .int o_t_place, .ref a_t_readPage, .ref a_t_page, .ref a_t_trial, .ref a_t_work, .ref a_t_book, .int v_t_doings, .ref a_t_kept, .ref a_t_isKept, .int v_t_seen, .ref a_t_seenWhat, .ref a_t_seenV, .ref a_t_seenIs, .long v_t_seed, .ref a_t_label, .ref a_t_finds, .ref a_t_reason, .ref a_t_caseFirst, .int v_t_cases, .ref a_t_brief, .ref a_t_printed, .int v_t_printedSize, .ref a_t_renamed, .ref a_t_worth, .int v_t_lastReason])), (a_t_text, .inl (cI, 120, .inl r_t_text))]) (by decide) rfl (Nat.le_of_ble_eq_true rfl) ?_
  intro p e s m args below meth c A ls H locs Qm hQ hx hb hr hlocks hml hown hts hK hP hD hA hS hl
  have hl : lv_has ls 3 [(0, .ref a_t)] := hl
  rw [f_X7_takePage] at hf
  have jn31 : ∀ (x1 : Int32) (s1 : Int32) (s2 : Int32) (v_t_place : Int32) (H : Heap) (locs : List Loc) (ls : Array Slot), j_X7_takePage_31 v_t_textSize r_t_text x1 s1 s2 v_t_place = some (rR, o_t_place) → va_P D vwCl [(a_t, .inr (6, [.int v_t_thrown, .ref a_t_text, .int v_t_textSize, .int v_t_place, .ref a_t_readPage, .ref a_t_page, .ref a_t_trial, .ref a_t_work, .ref a_t_book, .int v_t_doings, .ref a_t_kept, .ref a_t_isKept, .int v_t_seen, .ref a_t_seenWhat, .ref a_t_seenV, .ref a_t_seenIs, .long v_t_seed, .ref a_t_label, .ref a_t_finds, .ref a_t_reason, .ref a_t_caseFirst, .int v_t_cases, .ref a_t_brief, .ref a_t_printed, .int v_t_printedSize, .ref a_t_renamed, .ref a_t_worth, .int v_t_lastReason])), (a_t_text, .inl (cI, 120, .inl r_t_text))] H → va_S A s.heap H locs → lv_has ls 3 [(1, .int x1)] → W p l e { frames := 2, cells := 0, slots := 0, locals := 49 } s m args below meth c H locs 0 0 Qm (F0 m 31 ls [.int s2, .int s1, .ref a_t]) := by
    intro x1 s1 s2 v_t_place H locs ls hf hP hS hl
    rw [j_X7_takePage_31] at hf
    refine lv_bipush (v := (9)) hx hb dX7_takePage_31 (by decide) ?_
    obtain ⟨ru1, v_t_place_u1, hu1, hf⟩ := pn_bd2_at hf
    refine pn_calli [0, 1] (va_runV (As := [.int s1, .int s2, .int (9 : Int32)]) (rest := []) ⟨hx, hb, hml, hown, hts⟩ (c_X7_take l D cI cJ cZ a_t a_t_text a_t_readPage a_t_page a_t_trial a_t_work a_t_book a_t_kept a_t_isKept a_t_seenWhat a_t_seenV a_t_seenIs a_t_label a_t_finds a_t_reason a_t_caseFirst a_t_brief a_t_printed a_t_renamed a_t_worth H.size v_t_thrown v_t_doings v_t_seen v_t_seed v_t_cases v_t_printedSize v_t_lastReason v_t_textSize v_t_place r_t_text s1 s2 (9 : Int32) ru1 v_t_place_u1 hu1) (cwV 3 hts gX7_takePage_X7_take rfl rfl rfl hdX7_take ⟨Nat.le_of_ble_eq_true rfl, Nat.le_of_ble_eq_true rfl⟩) (pn_preV [0, 1] hP (hD.addr rfl) hK rfl rfl (q0 := 0) (ci := 6) rfl rfl) rfl rfl hl.1 rfl (lv_room (Nat.le_of_ble_eq_true rfl)) dX7_takePage_33 ⟨Nat.zero_le _, Nat.zero_le _⟩) hP (hD.addr rfl) hS hA rfl rfl rfl (fun H locs (hP : va_P D vwCl [(a_t, .inr (6, [.int v_t_thrown, .ref a_t_text, .int v_t_textSize, .int v_t_place_u1, .ref a_t_readPage, .ref a_t_page, .ref a_t_trial, .ref a_t_work, .ref a_t_book, .int v_t_doings, .ref a_t_kept, .ref a_t_isKept, .int v_t_seen, .ref a_t_seenWhat, .ref a_t_seenV, .ref a_t_seenIs, .long v_t_seed, .ref a_t_label, .ref a_t_finds, .ref a_t_reason, .ref a_t_caseFirst, .int v_t_cases, .ref a_t_brief, .ref a_t_printed, .int v_t_printedSize, .ref a_t_renamed, .ref a_t_worth, .int v_t_lastReason])), (a_t_text, .inl (cI, 120, .inl r_t_text))] H) _ hS => ?_)
    refine lv_istore_n (lv' := [(2, .int ru1), (1, .int x1)]) hx hb dX7_takePage_36 rfl hl (by decide) rfl (fun ls hl => ?_)
    refine lv_iload_n hx hb dX7_takePage_37 rfl (lv_at hl 0 rfl) ?_
    refine lv_bipush (v := (-9)) hx hb dX7_takePage_38 (by decide) ?_
    refine lv_icmp_ne (tgt := 48) hx hb dX7_takePage_40 (by decide) (fun c2 => ?_) (fun c2 => ?_)
    · have hf := pn_ifp c2 hf
      refine lv_bipush (v := (10)) hx hb dX7_takePage_48 (by decide) ?_
      refine lv_iload_n hx hb dX7_takePage_50 rfl (lv_at hl 1 rfl) ?_
      refine lv_imul hx hb dX7_takePage_51 ?_
      refine lv_iload_n hx hb dX7_takePage_52 rfl (lv_at hl 0 rfl) ?_
      refine lv_iadd hx hb dX7_takePage_53 ?_
      cases hf
      rw [hQ]
      exact pn_reti hx hb hr hlocks hP hS rfl dX7_takePage_54
    · have hf := pn_ifq c2 hf
      refine lv_bipush (v := (-9)) hx hb dX7_takePage_43 (by decide) ?_
      refine lv_goto (tgt := 54) hx hb dX7_takePage_45 (by decide) ?_
      cases hf
      rw [hQ]
      exact pn_reti hx hb hr hlocks hP hS rfl dX7_takePage_54
  refine lv_aload_n hx hb dX7_takePage_0 rfl (lv_at hl 0 rfl) ?_
  refine lv_bipush (v := (48)) hx hb dX7_takePage_1 (by decide) ?_
  refine lv_iconst (v := (0)) hx hb dX7_takePage_3 (by decide) ?_
  refine lv_bipush (v := (9)) hx hb dX7_takePage_4 (by decide) ?_
  obtain ⟨ru3, v_t_place_u3, hu3, hf⟩ := pn_bd2_at hf
  refine pn_calli [0, 1] (va_runV (As := [.int (48 : Int32), .int (0 : Int32), .int (9 : Int32)]) (rest := []) ⟨hx, hb, hml, hown, hts⟩ (c_X7_take l D cI cJ cZ a_t a_t_text a_t_readPage a_t_page a_t_trial a_t_work a_t_book a_t_kept a_t_isKept a_t_seenWhat a_t_seenV a_t_seenIs a_t_label a_t_finds a_t_reason a_t_caseFirst a_t_brief a_t_printed a_t_renamed a_t_worth H.size v_t_thrown v_t_doings v_t_seen v_t_seed v_t_cases v_t_printedSize v_t_lastReason v_t_textSize v_t_place r_t_text (48 : Int32) (0 : Int32) (9 : Int32) ru3 v_t_place_u3 hu3) (cwV 3 hts gX7_takePage_X7_take rfl rfl rfl hdX7_take ⟨Nat.le_of_ble_eq_true rfl, Nat.le_of_ble_eq_true rfl⟩) (pn_preV [0, 1] hP (hD.addr rfl) hK rfl rfl (q0 := 0) (ci := 6) rfl rfl) rfl rfl hl.1 rfl (lv_room (Nat.le_of_ble_eq_true rfl)) dX7_takePage_6 ⟨Nat.zero_le _, Nat.zero_le _⟩) hP (hD.addr rfl) hS hA rfl rfl rfl (fun H locs (hP : va_P D vwCl [(a_t, .inr (6, [.int v_t_thrown, .ref a_t_text, .int v_t_textSize, .int v_t_place_u3, .ref a_t_readPage, .ref a_t_page, .ref a_t_trial, .ref a_t_work, .ref a_t_book, .int v_t_doings, .ref a_t_kept, .ref a_t_isKept, .int v_t_seen, .ref a_t_seenWhat, .ref a_t_seenV, .ref a_t_seenIs, .long v_t_seed, .ref a_t_label, .ref a_t_finds, .ref a_t_reason, .ref a_t_caseFirst, .int v_t_cases, .ref a_t_brief, .ref a_t_printed, .int v_t_printedSize, .ref a_t_renamed, .ref a_t_worth, .int v_t_lastReason])), (a_t_text, .inl (cI, 120, .inl r_t_text))] H) _ hS => ?_)
  refine lv_istore_n (lv' := [(1, .int ru3), (0, .ref a_t)]) hx hb dX7_takePage_9 rfl hl (by decide) rfl (fun ls hl => ?_)
  refine lv_iload_n hx hb dX7_takePage_10 rfl (lv_at hl 0 rfl) ?_
  refine lv_bipush (v := (-9)) hx hb dX7_takePage_11 (by decide) ?_
  refine lv_icmp_ne (tgt := 19) hx hb dX7_takePage_13 (by decide) (fun c4 => ?_) (fun c4 => ?_)
  · have hf := pn_ifp c4 hf
    refine lv_aload_n hx hb dX7_takePage_19 rfl (lv_at hl 1 rfl) ?_
    refine lv_bipush (v := (48)) hx hb dX7_takePage_20 (by decide) ?_
    refine lv_iload_n hx hb dX7_takePage_22 rfl (lv_at hl 0 rfl) ?_
    refine lv_if_ne (tgt := 30) hx hb dX7_takePage_23 (by decide) (fun c5 => ?_) (fun c5 => ?_)
    · have hf := pn_ifp c5 hf
      refine lv_iconst (v := (0)) hx hb dX7_takePage_30 (by decide) ?_
      exact jn31 ru3 (48 : Int32) (0 : Int32) v_t_place_u3 H locs ls hf hP hS (lv_sub hl [0] rfl)
    · have hf := pn_ifq c5 hf
      refine lv_iconst (v := (1)) hx hb dX7_takePage_26 (by decide) ?_
      refine lv_goto (tgt := 31) hx hb dX7_takePage_27 (by decide) ?_
      exact jn31 ru3 (48 : Int32) (1 : Int32) v_t_place_u3 H locs ls hf hP hS (lv_sub hl [0] rfl)
  · have hf := pn_ifq c4 hf
    refine lv_bipush (v := (-9)) hx hb dX7_takePage_16 (by decide) ?_
    cases hf
    rw [hQ]
    exact pn_reti hx hb hr hlocks hP hS rfl dX7_takePage_18
def j_X7_takeReport_43 (v_t_textSize : Int32) (r_t_text : Nat → Int32) (x2 : Int32) (s0 : Int32) (v_t_place : Int32) : Option (Int32 × Int32) :=
  if ¬ s0 = (-9 : Int32) then
  pn_bd2 (f_X7_takePage v_t_textSize v_t_place r_t_text) fun ru2 v_t_place_u2 =>
  if ¬ ru2 = (-9 : Int32) then
  some ((((1000 : Int32) * x2) + ((100 : Int32) * s0)) + ru2, v_t_place_u2)
  else
  some ((-9 : Int32), v_t_place_u2)
  else
  some ((-9 : Int32), v_t_place)
def f_X7_takeReport (v_t_textSize : Int32) (v_t_place : Int32) (r_t_text : Nat → Int32) (p1 : Int32) : Option (Int32 × Int32) :=
  pn_bd2 (f_X7_take v_t_textSize v_t_place r_t_text (48 : Int32) (1 : Int32) (9 : Int32)) fun ru4 v_t_place_u4 =>
  if ¬ ru4 = (-9 : Int32) then
  if ¬ p1 = (2 : Int32) then
  pn_bd2 (f_X7_take v_t_textSize v_t_place_u4 r_t_text (114 : Int32) p1 p1) fun ru7 v_t_place_u7 =>
  j_X7_takeReport_43 v_t_textSize r_t_text ru4 ru7 v_t_place_u7
  else
  pn_bd2 (f_X7_take v_t_textSize v_t_place_u4 r_t_text (114 : Int32) (0 : Int32) (1 : Int32)) fun ru8 v_t_place_u8 =>
  j_X7_takeReport_43 v_t_textSize r_t_text ru4 ru8 v_t_place_u8
  else
  some ((-9 : Int32), v_t_place_u4)
set_option maxHeartbeats 4000000 in
set_option maxRecDepth 100000 in
theorem c_X7_takeReport (l : Launch) (D : va_G) (cI cJ cZ : ClassId) (a_t a_t_text a_t_readPage a_t_page a_t_trial a_t_work a_t_book a_t_kept a_t_isKept a_t_seenWhat a_t_seenV a_t_seenIs a_t_label a_t_finds a_t_reason a_t_caseFirst a_t_brief a_t_printed a_t_renamed a_t_worth : Nat) (sz : Nat) (v_t_thrown : Int32) (v_t_doings : Int32) (v_t_seen : Int32) (v_t_seed : Int64) (v_t_cases : Int32) (v_t_printedSize : Int32) (v_t_lastReason : Int32) (v_t_textSize : Int32) (v_t_place : Int32) (r_t_text : Nat → Int32) (p1 : Int32) (rR : Int32) (o_t_place : Int32) (hf : f_X7_takeReport v_t_textSize v_t_place r_t_text p1 = some (rR, o_t_place)) : Met l yX7_takeReport wsX7_takeReport { frames := 3, cells := 0, slots := 0, locals := 71 } (pn_Pc D cI cJ cZ [.ref a_t, .int p1] [(a_t, .inr (6, [.int v_t_thrown, .ref a_t_text, .int v_t_textSize, .int v_t_place, .ref a_t_readPage, .ref a_t_page, .ref a_t_trial, .ref a_t_work, .ref a_t_book, .int v_t_doings, .ref a_t_kept, .ref a_t_isKept, .int v_t_seen, .ref a_t_seenWhat, .ref a_t_seenV, .ref a_t_seenIs, .long v_t_seed, .ref a_t_label, .ref a_t_finds, .ref a_t_reason, .ref a_t_caseFirst, .int v_t_cases, .ref a_t_brief, .ref a_t_printed, .int v_t_printedSize, .ref a_t_renamed, .ref a_t_worth, .int v_t_lastReason])), (a_t_text, .inl (cI, 120, .inl r_t_text))] sz) (pn_Qi D rR [(a_t, .inr (6, [.int v_t_thrown, .ref a_t_text, .int v_t_textSize, .int o_t_place, .ref a_t_readPage, .ref a_t_page, .ref a_t_trial, .ref a_t_work, .ref a_t_book, .int v_t_doings, .ref a_t_kept, .ref a_t_isKept, .int v_t_seen, .ref a_t_seenWhat, .ref a_t_seenV, .ref a_t_seenIs, .long v_t_seed, .ref a_t_label, .ref a_t_finds, .ref a_t_reason, .ref a_t_caseFirst, .int v_t_cases, .ref a_t_brief, .ref a_t_printed, .int v_t_printedSize, .ref a_t_renamed, .ref a_t_worth, .int v_t_lastReason])), (a_t_text, .inl (cI, 120, .inl r_t_text))] (va_A [(a_t, .inr (6, [.int v_t_thrown, .ref a_t_text, .int v_t_textSize, .int v_t_place, .ref a_t_readPage, .ref a_t_page, .ref a_t_trial, .ref a_t_work, .ref a_t_book, .int v_t_doings, .ref a_t_kept, .ref a_t_isKept, .int v_t_seen, .ref a_t_seenWhat, .ref a_t_seenV, .ref a_t_seenIs, .long v_t_seed, .ref a_t_label, .ref a_t_finds, .ref a_t_reason, .ref a_t_caseFirst, .int v_t_cases, .ref a_t_brief, .ref a_t_printed, .int v_t_printedSize, .ref a_t_renamed, .ref a_t_worth, .int v_t_lastReason])), (a_t_text, .inl (cI, 120, .inl r_t_text))] sz)) 0 0 (va_A [(a_t, .inr (6, [.int v_t_thrown, .ref a_t_text, .int v_t_textSize, .int v_t_place, .ref a_t_readPage, .ref a_t_page, .ref a_t_trial, .ref a_t_work, .ref a_t_book, .int v_t_doings, .ref a_t_kept, .ref a_t_isKept, .int v_t_seen, .ref a_t_seenWhat, .ref a_t_seenV, .ref a_t_seenIs, .long v_t_seed, .ref a_t_label, .ref a_t_finds, .ref a_t_reason, .ref a_t_caseFirst, .int v_t_cases, .ref a_t_brief, .ref a_t_printed, .int v_t_printedSize, .ref a_t_renamed, .ref a_t_worth, .int v_t_lastReason])), (a_t_text, .inl (cI, 120, .inl r_t_text))] sz) := by
  refine pn_entry (cc := cX7_takeReport) (maxL := 5) (ret := (some .int)) (Qf := pn_Qi D rR [(a_t, .inr (6, [.int v_t_thrown, .ref a_t_text, .int v_t_textSize, .int o_t_place, .ref a_t_readPage, .ref a_t_page, .ref a_t_trial, .ref a_t_work, .ref a_t_book, .int v_t_doings, .ref a_t_kept, .ref a_t_isKept, .int v_t_seen, .ref a_t_seenWhat, .ref a_t_seenV, .ref a_t_seenIs, .long v_t_seed, .ref a_t_label, .ref a_t_finds, .ref a_t_reason, .ref a_t_caseFirst, .int v_t_cases, .ref a_t_brief, .ref a_t_printed, .int v_t_printedSize, .ref a_t_renamed, .ref a_t_worth, .int v_t_lastReason])), (a_t_text, .inl (cI, 120, .inl r_t_text))]) (by decide) rfl (Nat.le_of_ble_eq_true rfl) ?_
  intro p e s m args below meth c A ls H locs Qm hQ hx hb hr hlocks hml hown hts hK hP hD hA hS hl
  have hl : lv_has ls 5 [(0, .ref a_t), (1, .int p1)] := hl
  rw [f_X7_takeReport] at hf
  have jn43 : ∀ (x2 : Int32) (s0 : Int32) (v_t_place : Int32) (H : Heap) (locs : List Loc) (ls : Array Slot), j_X7_takeReport_43 v_t_textSize r_t_text x2 s0 v_t_place = some (rR, o_t_place) → va_P D vwCl [(a_t, .inr (6, [.int v_t_thrown, .ref a_t_text, .int v_t_textSize, .int v_t_place, .ref a_t_readPage, .ref a_t_page, .ref a_t_trial, .ref a_t_work, .ref a_t_book, .int v_t_doings, .ref a_t_kept, .ref a_t_isKept, .int v_t_seen, .ref a_t_seenWhat, .ref a_t_seenV, .ref a_t_seenIs, .long v_t_seed, .ref a_t_label, .ref a_t_finds, .ref a_t_reason, .ref a_t_caseFirst, .int v_t_cases, .ref a_t_brief, .ref a_t_printed, .int v_t_printedSize, .ref a_t_renamed, .ref a_t_worth, .int v_t_lastReason])), (a_t_text, .inl (cI, 120, .inl r_t_text))] H → va_S A s.heap H locs → lv_has ls 5 [(0, .ref a_t), (2, .int x2)] → W p l e { frames := 3, cells := 0, slots := 0, locals := 71 } s m args below meth c H locs 0 0 Qm (F0 m 43 ls [.int s0]) := by
    intro x2 s0 v_t_place H locs ls hf hP hS hl
    rw [j_X7_takeReport_43] at hf
    refine lv_istore_n (lv' := [(3, .int s0), (0, .ref a_t), (2, .int x2)]) hx hb dX7_takeReport_43 rfl hl (by decide) rfl (fun ls hl => ?_)
    refine lv_iload_n hx hb dX7_takeReport_44 rfl (lv_at hl 0 rfl) ?_
    refine lv_bipush (v := (-9)) hx hb dX7_takeReport_45 (by decide) ?_
    refine lv_icmp_ne (tgt := 53) hx hb dX7_takeReport_47 (by decide) (fun c1 => ?_) (fun c1 => ?_)
    · have hf := pn_ifp c1 hf
      refine lv_aload_n hx hb dX7_takeReport_53 rfl (lv_at hl 1 rfl) ?_
      obtain ⟨ru2, v_t_place_u2, hu2, hf⟩ := pn_bd2_at hf
      refine pn_calli [0, 1] (va_runV (As := []) (rest := []) ⟨hx, hb, hml, hown, hts⟩ (c_X7_takePage l D cI cJ cZ a_t a_t_text a_t_readPage a_t_page a_t_trial a_t_work a_t_book a_t_kept a_t_isKept a_t_seenWhat a_t_seenV a_t_seenIs a_t_label a_t_finds a_t_reason a_t_caseFirst a_t_brief a_t_printed a_t_renamed a_t_worth H.size v_t_thrown v_t_doings v_t_seen v_t_seed v_t_cases v_t_printedSize v_t_lastReason v_t_textSize v_t_place r_t_text ru2 v_t_place_u2 hu2) (cwV 0 hts gX7_takeReport_X7_takePage rfl rfl rfl hdX7_takePage ⟨Nat.le_of_ble_eq_true rfl, Nat.le_of_ble_eq_true rfl⟩) (pn_preV [0, 1] hP (hD.addr rfl) hK rfl rfl (q0 := 0) (ci := 6) rfl rfl) rfl rfl hl.1 rfl (lv_room (Nat.le_of_ble_eq_true rfl)) dX7_takeReport_54 ⟨Nat.zero_le _, Nat.zero_le _⟩) hP (hD.addr rfl) hS hA rfl rfl rfl (fun H locs (hP : va_P D vwCl [(a_t, .inr (6, [.int v_t_thrown, .ref a_t_text, .int v_t_textSize, .int v_t_place_u2, .ref a_t_readPage, .ref a_t_page, .ref a_t_trial, .ref a_t_work, .ref a_t_book, .int v_t_doings, .ref a_t_kept, .ref a_t_isKept, .int v_t_seen, .ref a_t_seenWhat, .ref a_t_seenV, .ref a_t_seenIs, .long v_t_seed, .ref a_t_label, .ref a_t_finds, .ref a_t_reason, .ref a_t_caseFirst, .int v_t_cases, .ref a_t_brief, .ref a_t_printed, .int v_t_printedSize, .ref a_t_renamed, .ref a_t_worth, .int v_t_lastReason])), (a_t_text, .inl (cI, 120, .inl r_t_text))] H) _ hS => ?_)
      refine lv_istore (lv' := [(4, .int ru2), (3, .int s0), (0, .ref a_t), (2, .int x2)]) hx hb dX7_takeReport_57 hl (by decide) rfl (fun ls hl => ?_)
      refine lv_iload hx hb dX7_takeReport_59 (lv_at hl 0 rfl) ?_
      refine lv_bipush (v := (-9)) hx hb dX7_takeReport_61 (by decide) ?_
      refine lv_icmp_ne (tgt := 71) hx hb dX7_takeReport_63 (by decide) (fun c3 => ?_) (fun c3 => ?_)
      · have hf := pn_ifp c3 hf
        refine lv_sipush (v := (1000)) hx hb dX7_takeReport_71 (by decide) ?_
        refine lv_iload_n hx hb dX7_takeReport_74 rfl (lv_at hl 3 rfl) ?_
        refine lv_imul hx hb dX7_takeReport_75 ?_
        refine lv_bipush (v := (100)) hx hb dX7_takeReport_76 (by decide) ?_
        refine lv_iload_n hx hb dX7_takeReport_78 rfl (lv_at hl 1 rfl) ?_
        refine lv_imul hx hb dX7_takeReport_79 ?_
        refine lv_iadd hx hb dX7_takeReport_80 ?_
        refine lv_iload hx hb dX7_takeReport_81 (lv_at hl 0 rfl) ?_
        refine lv_iadd hx hb dX7_takeReport_83 ?_
        cases hf
        rw [hQ]
        exact pn_reti hx hb hr hlocks hP hS rfl dX7_takeReport_84
      · have hf := pn_ifq c3 hf
        refine lv_bipush (v := (-9)) hx hb dX7_takeReport_66 (by decide) ?_
        refine lv_goto (tgt := 84) hx hb dX7_takeReport_68 (by decide) ?_
        cases hf
        rw [hQ]
        exact pn_reti hx hb hr hlocks hP hS rfl dX7_takeReport_84
    · have hf := pn_ifq c1 hf
      refine lv_bipush (v := (-9)) hx hb dX7_takeReport_50 (by decide) ?_
      cases hf
      rw [hQ]
      exact pn_reti hx hb hr hlocks hP hS rfl dX7_takeReport_52
  refine lv_aload_n hx hb dX7_takeReport_0 rfl (lv_at hl 0 rfl) ?_
  refine lv_bipush (v := (48)) hx hb dX7_takeReport_1 (by decide) ?_
  refine lv_iconst (v := (1)) hx hb dX7_takeReport_3 (by decide) ?_
  refine lv_bipush (v := (9)) hx hb dX7_takeReport_4 (by decide) ?_
  obtain ⟨ru4, v_t_place_u4, hu4, hf⟩ := pn_bd2_at hf
  refine pn_calli [0, 1] (va_runV (As := [.int (48 : Int32), .int (1 : Int32), .int (9 : Int32)]) (rest := []) ⟨hx, hb, hml, hown, hts⟩ (c_X7_take l D cI cJ cZ a_t a_t_text a_t_readPage a_t_page a_t_trial a_t_work a_t_book a_t_kept a_t_isKept a_t_seenWhat a_t_seenV a_t_seenIs a_t_label a_t_finds a_t_reason a_t_caseFirst a_t_brief a_t_printed a_t_renamed a_t_worth H.size v_t_thrown v_t_doings v_t_seen v_t_seed v_t_cases v_t_printedSize v_t_lastReason v_t_textSize v_t_place r_t_text (48 : Int32) (1 : Int32) (9 : Int32) ru4 v_t_place_u4 hu4) (cwV 3 hts gX7_takeReport_X7_take rfl rfl rfl hdX7_take ⟨Nat.le_of_ble_eq_true rfl, Nat.le_of_ble_eq_true rfl⟩) (pn_preV [0, 1] hP (hD.addr rfl) hK rfl rfl (q0 := 0) (ci := 6) rfl rfl) rfl rfl hl.1 rfl (lv_room (Nat.le_of_ble_eq_true rfl)) dX7_takeReport_6 ⟨Nat.zero_le _, Nat.zero_le _⟩) hP (hD.addr rfl) hS hA rfl rfl rfl (fun H locs (hP : va_P D vwCl [(a_t, .inr (6, [.int v_t_thrown, .ref a_t_text, .int v_t_textSize, .int v_t_place_u4, .ref a_t_readPage, .ref a_t_page, .ref a_t_trial, .ref a_t_work, .ref a_t_book, .int v_t_doings, .ref a_t_kept, .ref a_t_isKept, .int v_t_seen, .ref a_t_seenWhat, .ref a_t_seenV, .ref a_t_seenIs, .long v_t_seed, .ref a_t_label, .ref a_t_finds, .ref a_t_reason, .ref a_t_caseFirst, .int v_t_cases, .ref a_t_brief, .ref a_t_printed, .int v_t_printedSize, .ref a_t_renamed, .ref a_t_worth, .int v_t_lastReason])), (a_t_text, .inl (cI, 120, .inl r_t_text))] H) _ hS => ?_)
  refine lv_istore_n (lv' := [(2, .int ru4), (0, .ref a_t), (1, .int p1)]) hx hb dX7_takeReport_9 rfl hl (by decide) rfl (fun ls hl => ?_)
  refine lv_iload_n hx hb dX7_takeReport_10 rfl (lv_at hl 0 rfl) ?_
  refine lv_bipush (v := (-9)) hx hb dX7_takeReport_11 (by decide) ?_
  refine lv_icmp_ne (tgt := 19) hx hb dX7_takeReport_13 (by decide) (fun c5 => ?_) (fun c5 => ?_)
  · have hf := pn_ifp c5 hf
    refine lv_iload_n hx hb dX7_takeReport_19 rfl (lv_at hl 2 rfl) ?_
    refine lv_iconst (v := (2)) hx hb dX7_takeReport_20 (by decide) ?_
    refine lv_icmp_ne (tgt := 35) hx hb dX7_takeReport_21 (by decide) (fun c6 => ?_) (fun c6 => ?_)
    · have hf := pn_ifp c6 hf
      refine lv_aload_n hx hb dX7_takeReport_35 rfl (lv_at hl 1 rfl) ?_
      refine lv_bipush (v := (114)) hx hb dX7_takeReport_36 (by decide) ?_
      refine lv_iload_n hx hb dX7_takeReport_38 rfl (lv_at hl 2 rfl) ?_
      refine lv_iload_n hx hb dX7_takeReport_39 rfl (lv_at hl 2 rfl) ?_
      obtain ⟨ru7, v_t_place_u7, hu7, hf⟩ := pn_bd2_at hf
      refine pn_calli [0, 1] (va_runV (As := [.int (114 : Int32), .int p1, .int p1]) (rest := []) ⟨hx, hb, hml, hown, hts⟩ (c_X7_take l D cI cJ cZ a_t a_t_text a_t_readPage a_t_page a_t_trial a_t_work a_t_book a_t_kept a_t_isKept a_t_seenWhat a_t_seenV a_t_seenIs a_t_label a_t_finds a_t_reason a_t_caseFirst a_t_brief a_t_printed a_t_renamed a_t_worth H.size v_t_thrown v_t_doings v_t_seen v_t_seed v_t_cases v_t_printedSize v_t_lastReason v_t_textSize v_t_place_u4 r_t_text (114 : Int32) p1 p1 ru7 v_t_place_u7 hu7) (cwV 3 hts gX7_takeReport_X7_take rfl rfl rfl hdX7_take ⟨Nat.le_of_ble_eq_true rfl, Nat.le_of_ble_eq_true rfl⟩) (pn_preV [0, 1] hP (hD.addr rfl) hK rfl rfl (q0 := 0) (ci := 6) rfl rfl) rfl rfl hl.1 rfl (lv_room (Nat.le_of_ble_eq_true rfl)) dX7_takeReport_40 ⟨Nat.zero_le _, Nat.zero_le _⟩) hP (hD.addr rfl) hS hA rfl rfl rfl (fun H locs (hP : va_P D vwCl [(a_t, .inr (6, [.int v_t_thrown, .ref a_t_text, .int v_t_textSize, .int v_t_place_u7, .ref a_t_readPage, .ref a_t_page, .ref a_t_trial, .ref a_t_work, .ref a_t_book, .int v_t_doings, .ref a_t_kept, .ref a_t_isKept, .int v_t_seen, .ref a_t_seenWhat, .ref a_t_seenV, .ref a_t_seenIs, .long v_t_seed, .ref a_t_label, .ref a_t_finds, .ref a_t_reason, .ref a_t_caseFirst, .int v_t_cases, .ref a_t_brief, .ref a_t_printed, .int v_t_printedSize, .ref a_t_renamed, .ref a_t_worth, .int v_t_lastReason])), (a_t_text, .inl (cI, 120, .inl r_t_text))] H) _ hS => ?_)
      exact jn43 ru4 ru7 v_t_place_u7 H locs ls hf hP hS (lv_sub hl [1, 0] rfl)
    · have hf := pn_ifq c6 hf
      refine lv_aload_n hx hb dX7_takeReport_24 rfl (lv_at hl 1 rfl) ?_
      refine lv_bipush (v := (114)) hx hb dX7_takeReport_25 (by decide) ?_
      refine lv_iconst (v := (0)) hx hb dX7_takeReport_27 (by decide) ?_
      refine lv_iconst (v := (1)) hx hb dX7_takeReport_28 (by decide) ?_
      obtain ⟨ru8, v_t_place_u8, hu8, hf⟩ := pn_bd2_at hf
      refine pn_calli [0, 1] (va_runV (As := [.int (114 : Int32), .int (0 : Int32), .int (1 : Int32)]) (rest := []) ⟨hx, hb, hml, hown, hts⟩ (c_X7_take l D cI cJ cZ a_t a_t_text a_t_readPage a_t_page a_t_trial a_t_work a_t_book a_t_kept a_t_isKept a_t_seenWhat a_t_seenV a_t_seenIs a_t_label a_t_finds a_t_reason a_t_caseFirst a_t_brief a_t_printed a_t_renamed a_t_worth H.size v_t_thrown v_t_doings v_t_seen v_t_seed v_t_cases v_t_printedSize v_t_lastReason v_t_textSize v_t_place_u4 r_t_text (114 : Int32) (0 : Int32) (1 : Int32) ru8 v_t_place_u8 hu8) (cwV 3 hts gX7_takeReport_X7_take rfl rfl rfl hdX7_take ⟨Nat.le_of_ble_eq_true rfl, Nat.le_of_ble_eq_true rfl⟩) (pn_preV [0, 1] hP (hD.addr rfl) hK rfl rfl (q0 := 0) (ci := 6) rfl rfl) rfl rfl hl.1 rfl (lv_room (Nat.le_of_ble_eq_true rfl)) dX7_takeReport_29 ⟨Nat.zero_le _, Nat.zero_le _⟩) hP (hD.addr rfl) hS hA rfl rfl rfl (fun H locs (hP : va_P D vwCl [(a_t, .inr (6, [.int v_t_thrown, .ref a_t_text, .int v_t_textSize, .int v_t_place_u8, .ref a_t_readPage, .ref a_t_page, .ref a_t_trial, .ref a_t_work, .ref a_t_book, .int v_t_doings, .ref a_t_kept, .ref a_t_isKept, .int v_t_seen, .ref a_t_seenWhat, .ref a_t_seenV, .ref a_t_seenIs, .long v_t_seed, .ref a_t_label, .ref a_t_finds, .ref a_t_reason, .ref a_t_caseFirst, .int v_t_cases, .ref a_t_brief, .ref a_t_printed, .int v_t_printedSize, .ref a_t_renamed, .ref a_t_worth, .int v_t_lastReason])), (a_t_text, .inl (cI, 120, .inl r_t_text))] H) _ hS => ?_)
      refine lv_goto (tgt := 43) hx hb dX7_takeReport_32 (by decide) ?_
      exact jn43 ru4 ru8 v_t_place_u8 H locs ls hf hP hS (lv_sub hl [1, 0] rfl)
  · have hf := pn_ifq c5 hf
    refine lv_bipush (v := (-9)) hx hb dX7_takeReport_16 (by decide) ?_
    cases hf
    rw [hQ]
    exact pn_reti hx hb hr hlocks hP hS rfl dX7_takeReport_18
def f_X7_readSpelled (v_t_textSize : Int32) (v_t_place : Int32) (r_t_readPage : Nat → Int32) (r_t_text : Nat → Int32) (p1 : Int32) : Option (Int32 × Int32 × (Nat → Int32)) :=
  pn_bd2 (f_X7_take v_t_textSize v_t_place r_t_text (65 : Int32) (0 : Int32) (5 : Int32)) fun ru1 v_t_place_u1 =>
  pn_wrI 265 r_t_readPage (p1 + (2 : Int32)) ru1 fun g2 =>
  pn_bd2 (f_X7_takeReport v_t_textSize v_t_place_u1 r_t_text (2 : Int32)) fun ru4 v_t_place_u4 =>
  if ¬ ru4 = (-9 : Int32) then
  pn_wrI 265 g2 (p1 + (3 : Int32)) ru4 fun g6 =>
  pn_bd1 (f_X7_next v_t_textSize v_t_place_u4 r_t_text) fun ru8 =>
  if ¬ ru8 = (61 : Int32) then
  some ((1 : Int32), v_t_place_u4, g6)
  else
  pn_nm (v_t_place_u4 + (1 : Int32)) fun z10 =>
  pn_bd2 (f_X7_takeReport v_t_textSize z10 r_t_text ((1 : Int32) - ((ru4 / (100 : Int32)) - (ru4 / (100 : Int32)) / (10 : Int32) * (10 : Int32)))) fun ru11 v_t_place_u11 =>
  pn_wrI 265 g6 (p1 + (4 : Int32)) ru11 fun g12 =>
  if ru11 = (-9 : Int32) then
  some ((0 : Int32), v_t_place_u11, g12)
  else
  some ((1 : Int32), v_t_place_u11, g12)
  else
  some ((0 : Int32), v_t_place_u4, g2)
set_option maxHeartbeats 4000000 in
set_option maxRecDepth 100000 in
theorem c_X7_readSpelled (l : Launch) (D : va_G) (cI cJ cZ : ClassId) (a_t a_t_text a_t_readPage a_t_page a_t_trial a_t_work a_t_book a_t_kept a_t_isKept a_t_seenWhat a_t_seenV a_t_seenIs a_t_label a_t_finds a_t_reason a_t_caseFirst a_t_brief a_t_printed a_t_renamed a_t_worth : Nat) (sz : Nat) (v_t_thrown : Int32) (v_t_doings : Int32) (v_t_seen : Int32) (v_t_seed : Int64) (v_t_cases : Int32) (v_t_printedSize : Int32) (v_t_lastReason : Int32) (v_t_textSize : Int32) (v_t_place : Int32) (r_t_readPage : Nat → Int32) (r_t_text : Nat → Int32) (p1 : Int32) (rR : Int32) (o_t_place : Int32) (o_t_readPage : Nat → Int32) (hf : f_X7_readSpelled v_t_textSize v_t_place r_t_readPage r_t_text p1 = some (rR, o_t_place, o_t_readPage)) : Met l yX7_readSpelled wsX7_readSpelled { frames := 4, cells := 0, slots := 0, locals := 95 } (pn_Pc D cI cJ cZ [.ref a_t, .int p1] [(a_t, .inr (6, [.int v_t_thrown, .ref a_t_text, .int v_t_textSize, .int v_t_place, .ref a_t_readPage, .ref a_t_page, .ref a_t_trial, .ref a_t_work, .ref a_t_book, .int v_t_doings, .ref a_t_kept, .ref a_t_isKept, .int v_t_seen, .ref a_t_seenWhat, .ref a_t_seenV, .ref a_t_seenIs, .long v_t_seed, .ref a_t_label, .ref a_t_finds, .ref a_t_reason, .ref a_t_caseFirst, .int v_t_cases, .ref a_t_brief, .ref a_t_printed, .int v_t_printedSize, .ref a_t_renamed, .ref a_t_worth, .int v_t_lastReason])), (a_t_readPage, .inl (cI, 265, .inl r_t_readPage)), (a_t_text, .inl (cI, 120, .inl r_t_text))] sz) (pn_Qi D rR [(a_t, .inr (6, [.int v_t_thrown, .ref a_t_text, .int v_t_textSize, .int o_t_place, .ref a_t_readPage, .ref a_t_page, .ref a_t_trial, .ref a_t_work, .ref a_t_book, .int v_t_doings, .ref a_t_kept, .ref a_t_isKept, .int v_t_seen, .ref a_t_seenWhat, .ref a_t_seenV, .ref a_t_seenIs, .long v_t_seed, .ref a_t_label, .ref a_t_finds, .ref a_t_reason, .ref a_t_caseFirst, .int v_t_cases, .ref a_t_brief, .ref a_t_printed, .int v_t_printedSize, .ref a_t_renamed, .ref a_t_worth, .int v_t_lastReason])), (a_t_readPage, .inl (cI, 265, .inl o_t_readPage)), (a_t_text, .inl (cI, 120, .inl r_t_text))] (va_A [(a_t, .inr (6, [.int v_t_thrown, .ref a_t_text, .int v_t_textSize, .int v_t_place, .ref a_t_readPage, .ref a_t_page, .ref a_t_trial, .ref a_t_work, .ref a_t_book, .int v_t_doings, .ref a_t_kept, .ref a_t_isKept, .int v_t_seen, .ref a_t_seenWhat, .ref a_t_seenV, .ref a_t_seenIs, .long v_t_seed, .ref a_t_label, .ref a_t_finds, .ref a_t_reason, .ref a_t_caseFirst, .int v_t_cases, .ref a_t_brief, .ref a_t_printed, .int v_t_printedSize, .ref a_t_renamed, .ref a_t_worth, .int v_t_lastReason])), (a_t_readPage, .inl (cI, 265, .inl r_t_readPage)), (a_t_text, .inl (cI, 120, .inl r_t_text))] sz)) 0 0 (va_A [(a_t, .inr (6, [.int v_t_thrown, .ref a_t_text, .int v_t_textSize, .int v_t_place, .ref a_t_readPage, .ref a_t_page, .ref a_t_trial, .ref a_t_work, .ref a_t_book, .int v_t_doings, .ref a_t_kept, .ref a_t_isKept, .int v_t_seen, .ref a_t_seenWhat, .ref a_t_seenV, .ref a_t_seenIs, .long v_t_seed, .ref a_t_label, .ref a_t_finds, .ref a_t_reason, .ref a_t_caseFirst, .int v_t_cases, .ref a_t_brief, .ref a_t_printed, .int v_t_printedSize, .ref a_t_renamed, .ref a_t_worth, .int v_t_lastReason])), (a_t_readPage, .inl (cI, 265, .inl r_t_readPage)), (a_t_text, .inl (cI, 120, .inl r_t_text))] sz) := by
  refine pn_entry (cc := cX7_readSpelled) (maxL := 5) (ret := (some .boolean)) (Qf := pn_Qi D rR [(a_t, .inr (6, [.int v_t_thrown, .ref a_t_text, .int v_t_textSize, .int o_t_place, .ref a_t_readPage, .ref a_t_page, .ref a_t_trial, .ref a_t_work, .ref a_t_book, .int v_t_doings, .ref a_t_kept, .ref a_t_isKept, .int v_t_seen, .ref a_t_seenWhat, .ref a_t_seenV, .ref a_t_seenIs, .long v_t_seed, .ref a_t_label, .ref a_t_finds, .ref a_t_reason, .ref a_t_caseFirst, .int v_t_cases, .ref a_t_brief, .ref a_t_printed, .int v_t_printedSize, .ref a_t_renamed, .ref a_t_worth, .int v_t_lastReason])), (a_t_readPage, .inl (cI, 265, .inl o_t_readPage)), (a_t_text, .inl (cI, 120, .inl r_t_text))]) (by decide) rfl (Nat.le_of_ble_eq_true rfl) ?_
  intro p e s m args below meth c A ls H locs Qm hQ hx hb hr hlocks hml hown hts hK hP hD hA hS hl
  have hl : lv_has ls 5 [(0, .ref a_t), (1, .int p1)] := hl
  have hinX7 : ∀ w ∈ wsX70, w ∈ wsX7_readSpelled := by decide +kernel
  have fl_13 := hts (.fieldLink RX7 13 "PointingNotesModel" "readPage" "[I") (by decide +kernel)
  have fl_89 := hts (.fieldLink RX7 89 "PointingNotesModel" "place" "I") (by decide +kernel)
  rw [f_X7_readSpelled] at hf
  refine lv_aload_n hx hb dX7_readSpelled_0 rfl (lv_at hl 0 rfl) ?_
  refine lv_bipush (v := (65)) hx hb dX7_readSpelled_1 (by decide) ?_
  refine lv_iconst (v := (0)) hx hb dX7_readSpelled_3 (by decide) ?_
  refine lv_iconst (v := (5)) hx hb dX7_readSpelled_4 (by decide) ?_
  obtain ⟨ru1, v_t_place_u1, hu1, hf⟩ := pn_bd2_at hf
  refine pn_calli [0, 2] (va_runV (As := [.int (65 : Int32), .int (0 : Int32), .int (5 : Int32)]) (rest := []) ⟨hx, hb, hml, hown, hts⟩ (c_X7_take l D cI cJ cZ a_t a_t_text a_t_readPage a_t_page a_t_trial a_t_work a_t_book a_t_kept a_t_isKept a_t_seenWhat a_t_seenV a_t_seenIs a_t_label a_t_finds a_t_reason a_t_caseFirst a_t_brief a_t_printed a_t_renamed a_t_worth H.size v_t_thrown v_t_doings v_t_seen v_t_seed v_t_cases v_t_printedSize v_t_lastReason v_t_textSize v_t_place r_t_text (65 : Int32) (0 : Int32) (5 : Int32) ru1 v_t_place_u1 hu1) (cwV 3 hts gX7_readSpelled_X7_take rfl rfl rfl hdX7_take ⟨Nat.le_of_ble_eq_true rfl, Nat.le_of_ble_eq_true rfl⟩) (pn_preV [0, 2] hP (hD.addr rfl) hK rfl rfl (q0 := 0) (ci := 6) rfl rfl) rfl rfl hl.1 rfl (lv_room (Nat.le_of_ble_eq_true rfl)) dX7_readSpelled_5 ⟨Nat.zero_le _, Nat.zero_le _⟩) hP (hD.addr rfl) hS hA rfl rfl rfl (fun H locs (hP : va_P D vwCl [(a_t, .inr (6, [.int v_t_thrown, .ref a_t_text, .int v_t_textSize, .int v_t_place_u1, .ref a_t_readPage, .ref a_t_page, .ref a_t_trial, .ref a_t_work, .ref a_t_book, .int v_t_doings, .ref a_t_kept, .ref a_t_isKept, .int v_t_seen, .ref a_t_seenWhat, .ref a_t_seenV, .ref a_t_seenIs, .long v_t_seed, .ref a_t_label, .ref a_t_finds, .ref a_t_reason, .ref a_t_caseFirst, .int v_t_cases, .ref a_t_brief, .ref a_t_printed, .int v_t_printedSize, .ref a_t_renamed, .ref a_t_worth, .int v_t_lastReason])), (a_t_readPage, .inl (cI, 265, .inl r_t_readPage)), (a_t_text, .inl (cI, 120, .inl r_t_text))] H) _ hS => ?_)
  refine lv_istore_n (lv' := [(2, .int ru1), (0, .ref a_t), (1, .int p1)]) hx hb dX7_readSpelled_8 rfl hl (by decide) rfl (fun ls hl => ?_)
  refine lv_aload_n hx hb dX7_readSpelled_9 rfl (lv_at hl 1 rfl) ?_
  refine va_get (D := D) (ci := 6) (v := .ref a_t_readPage) (C := RX7) (T := TX7) (N := 28) hx hb hts hinX7 hown hK.1 hP 0 rfl rfl 4 (by decide) fl_13 (fun _ h9 => h9) rfl dX7_readSpelled_10 ?_
  refine lv_iload_n hx hb dX7_readSpelled_13 rfl (lv_at hl 2 rfl) ?_
  refine lv_iconst (v := (2)) hx hb dX7_readSpelled_14 (by decide) ?_
  refine lv_iadd hx hb dX7_readSpelled_15 ?_
  refine lv_iload_n hx hb dX7_readSpelled_16 rfl (lv_at hl 0 rfl) ?_
  obtain ⟨hi3, g2, eg2, hf⟩ := pn_wrI_at hf
  refine pn_stI hx hb hK.1 hP (hD.addr rfl) hS 1 0 rfl rfl hi3 eg2 dX7_readSpelled_17 (fun H locs (hP : va_P D vwCl [(a_t, .inr (6, [.int v_t_thrown, .ref a_t_text, .int v_t_textSize, .int v_t_place_u1, .ref a_t_readPage, .ref a_t_page, .ref a_t_trial, .ref a_t_work, .ref a_t_book, .int v_t_doings, .ref a_t_kept, .ref a_t_isKept, .int v_t_seen, .ref a_t_seenWhat, .ref a_t_seenV, .ref a_t_seenIs, .long v_t_seed, .ref a_t_label, .ref a_t_finds, .ref a_t_reason, .ref a_t_caseFirst, .int v_t_cases, .ref a_t_brief, .ref a_t_printed, .int v_t_printedSize, .ref a_t_renamed, .ref a_t_worth, .int v_t_lastReason])), (a_t_readPage, .inl (cI, 265, .inl g2)), (a_t_text, .inl (cI, 120, .inl r_t_text))] H) _ hS => ?_)
  refine lv_aload_n hx hb dX7_readSpelled_18 rfl (lv_at hl 1 rfl) ?_
  refine lv_iconst (v := (2)) hx hb dX7_readSpelled_19 (by decide) ?_
  obtain ⟨ru4, v_t_place_u4, hu4, hf⟩ := pn_bd2_at hf
  refine pn_calli [0, 2] (va_runV (As := [.int (2 : Int32)]) (rest := []) ⟨hx, hb, hml, hown, hts⟩ (c_X7_takeReport l D cI cJ cZ a_t a_t_text a_t_readPage a_t_page a_t_trial a_t_work a_t_book a_t_kept a_t_isKept a_t_seenWhat a_t_seenV a_t_seenIs a_t_label a_t_finds a_t_reason a_t_caseFirst a_t_brief a_t_printed a_t_renamed a_t_worth H.size v_t_thrown v_t_doings v_t_seen v_t_seed v_t_cases v_t_printedSize v_t_lastReason v_t_textSize v_t_place_u1 r_t_text (2 : Int32) ru4 v_t_place_u4 hu4) (cwV 1 hts gX7_readSpelled_X7_takeReport rfl rfl rfl hdX7_takeReport ⟨Nat.le_of_ble_eq_true rfl, Nat.le_of_ble_eq_true rfl⟩) (pn_preV [0, 2] hP (hD.addr rfl) hK rfl rfl (q0 := 0) (ci := 6) rfl rfl) rfl rfl hl.1 rfl (lv_room (Nat.le_of_ble_eq_true rfl)) dX7_readSpelled_20 ⟨Nat.zero_le _, Nat.zero_le _⟩) hP (hD.addr rfl) hS hA rfl rfl rfl (fun H locs (hP : va_P D vwCl [(a_t, .inr (6, [.int v_t_thrown, .ref a_t_text, .int v_t_textSize, .int v_t_place_u4, .ref a_t_readPage, .ref a_t_page, .ref a_t_trial, .ref a_t_work, .ref a_t_book, .int v_t_doings, .ref a_t_kept, .ref a_t_isKept, .int v_t_seen, .ref a_t_seenWhat, .ref a_t_seenV, .ref a_t_seenIs, .long v_t_seed, .ref a_t_label, .ref a_t_finds, .ref a_t_reason, .ref a_t_caseFirst, .int v_t_cases, .ref a_t_brief, .ref a_t_printed, .int v_t_printedSize, .ref a_t_renamed, .ref a_t_worth, .int v_t_lastReason])), (a_t_readPage, .inl (cI, 265, .inl g2)), (a_t_text, .inl (cI, 120, .inl r_t_text))] H) _ hS => ?_)
  refine lv_istore_n (lv' := [(3, .int ru4), (2, .int ru1), (0, .ref a_t), (1, .int p1)]) hx hb dX7_readSpelled_23 rfl hl (by decide) rfl (fun ls hl => ?_)
  refine lv_iload_n hx hb dX7_readSpelled_24 rfl (lv_at hl 0 rfl) ?_
  refine lv_bipush (v := (-9)) hx hb dX7_readSpelled_25 (by decide) ?_
  refine lv_icmp_ne (tgt := 32) hx hb dX7_readSpelled_27 (by decide) (fun c5 => ?_) (fun c5 => ?_)
  · have hf := pn_ifp c5 hf
    refine lv_aload_n hx hb dX7_readSpelled_32 rfl (lv_at hl 2 rfl) ?_
    refine va_get (D := D) (ci := 6) (v := .ref a_t_readPage) (C := RX7) (T := TX7) (N := 28) hx hb hts hinX7 hown hK.1 hP 0 rfl rfl 4 (by decide) fl_13 (fun _ h9 => h9) rfl dX7_readSpelled_33 ?_
    refine lv_iload_n hx hb dX7_readSpelled_36 rfl (lv_at hl 3 rfl) ?_
    refine lv_iconst (v := (3)) hx hb dX7_readSpelled_37 (by decide) ?_
    refine lv_iadd hx hb dX7_readSpelled_38 ?_
    refine lv_iload_n hx hb dX7_readSpelled_39 rfl (lv_at hl 0 rfl) ?_
    obtain ⟨hi7, g6, eg6, hf⟩ := pn_wrI_at hf
    refine pn_stI hx hb hK.1 hP (hD.addr rfl) hS 1 0 rfl rfl hi7 eg6 dX7_readSpelled_40 (fun H locs (hP : va_P D vwCl [(a_t, .inr (6, [.int v_t_thrown, .ref a_t_text, .int v_t_textSize, .int v_t_place_u4, .ref a_t_readPage, .ref a_t_page, .ref a_t_trial, .ref a_t_work, .ref a_t_book, .int v_t_doings, .ref a_t_kept, .ref a_t_isKept, .int v_t_seen, .ref a_t_seenWhat, .ref a_t_seenV, .ref a_t_seenIs, .long v_t_seed, .ref a_t_label, .ref a_t_finds, .ref a_t_reason, .ref a_t_caseFirst, .int v_t_cases, .ref a_t_brief, .ref a_t_printed, .int v_t_printedSize, .ref a_t_renamed, .ref a_t_worth, .int v_t_lastReason])), (a_t_readPage, .inl (cI, 265, .inl g6)), (a_t_text, .inl (cI, 120, .inl r_t_text))] H) _ hS => ?_)
    refine lv_aload_n hx hb dX7_readSpelled_41 rfl (lv_at hl 2 rfl) ?_
    obtain ⟨ru8, hu8, hf⟩ := pn_bd1_at hf
    refine pn_calli [0, 2] (va_runV (As := []) (rest := []) ⟨hx, hb, hml, hown, hts⟩ (c_X7_next l D cI cJ cZ a_t a_t_text a_t_readPage a_t_page a_t_trial a_t_work a_t_book a_t_kept a_t_isKept a_t_seenWhat a_t_seenV a_t_seenIs a_t_label a_t_finds a_t_reason a_t_caseFirst a_t_brief a_t_printed a_t_renamed a_t_worth H.size v_t_thrown v_t_doings v_t_seen v_t_seed v_t_cases v_t_printedSize v_t_lastReason v_t_textSize v_t_place_u4 r_t_text ru8 hu8) (cwV 0 hts gX7_readSpelled_X7_next rfl rfl rfl hdX7_next ⟨Nat.le_of_ble_eq_true rfl, Nat.le_of_ble_eq_true rfl⟩) (pn_preV [0, 2] hP (hD.addr rfl) hK rfl rfl (q0 := 0) (ci := 6) rfl rfl) rfl rfl hl.1 rfl (lv_room (Nat.le_of_ble_eq_true rfl)) dX7_readSpelled_42 ⟨Nat.zero_le _, Nat.zero_le _⟩) hP (hD.addr rfl) hS hA rfl rfl rfl (fun H locs (hP : va_P D vwCl [(a_t, .inr (6, [.int v_t_thrown, .ref a_t_text, .int v_t_textSize, .int v_t_place_u4, .ref a_t_readPage, .ref a_t_page, .ref a_t_trial, .ref a_t_work, .ref a_t_book, .int v_t_doings, .ref a_t_kept, .ref a_t_isKept, .int v_t_seen, .ref a_t_seenWhat, .ref a_t_seenV, .ref a_t_seenIs, .long v_t_seed, .ref a_t_label, .ref a_t_finds, .ref a_t_reason, .ref a_t_caseFirst, .int v_t_cases, .ref a_t_brief, .ref a_t_printed, .int v_t_printedSize, .ref a_t_renamed, .ref a_t_worth, .int v_t_lastReason])), (a_t_readPage, .inl (cI, 265, .inl g6)), (a_t_text, .inl (cI, 120, .inl r_t_text))] H) _ hS => ?_)
    refine lv_bipush (v := (61)) hx hb dX7_readSpelled_45 (by decide) ?_
    refine lv_icmp_ne (tgt := 98) hx hb dX7_readSpelled_47 (by decide) (fun c9 => ?_) (fun c9 => ?_)
    · have hf := pn_ifp c9 hf
      refine lv_iconst (v := (1)) hx hb dX7_readSpelled_98 (by decide) ?_
      cases hf
      rw [hQ]
      exact pn_retz hx hb hr hlocks hP hS rfl rfl dX7_readSpelled_99
    · have hf := pn_ifq c9 hf
      refine lv_aload_n hx hb dX7_readSpelled_50 rfl (lv_at hl 2 rfl) ?_
      refine lv_dup hx hb dX7_readSpelled_51 rfl ?_
      refine va_get (D := D) (ci := 6) (v := .int v_t_place_u4) (C := RX7) (T := TX7) (N := 28) hx hb hts hinX7 hown hK.1 hP 0 rfl rfl 3 (by decide) fl_89 (fun _ h9 => h9) rfl dX7_readSpelled_52 ?_
      refine lv_iconst (v := (1)) hx hb dX7_readSpelled_55 (by decide) ?_
      refine lv_iadd hx hb dX7_readSpelled_56 ?_
      refine lv_topi (fun z10 ez10 => ?_)
      have hf := pn_nm_at ez10 hf
      refine va_put (D := D) (ci := 6) (v := .int z10) (ty := .int) (C := RX7) (T := TX7) (N := 28) hx hb hts hinX7 tyX7 tyX7_ok nmX7 hown hK.1 hP (hD.addr rfl) hS 0 rfl rfl 3 (by decide) fl_89 (fun _ h9 => h9) rfl (by decide +kernel) rfl rfl (Nat.le_of_ble_eq_true rfl) dX7_readSpelled_57 (fun H locs (hP : va_P D vwCl [(a_t, .inr (6, [.int v_t_thrown, .ref a_t_text, .int v_t_textSize, .int z10, .ref a_t_readPage, .ref a_t_page, .ref a_t_trial, .ref a_t_work, .ref a_t_book, .int v_t_doings, .ref a_t_kept, .ref a_t_isKept, .int v_t_seen, .ref a_t_seenWhat, .ref a_t_seenV, .ref a_t_seenIs, .long v_t_seed, .ref a_t_label, .ref a_t_finds, .ref a_t_reason, .ref a_t_caseFirst, .int v_t_cases, .ref a_t_brief, .ref a_t_printed, .int v_t_printedSize, .ref a_t_renamed, .ref a_t_worth, .int v_t_lastReason])), (a_t_readPage, .inl (cI, 265, .inl g6)), (a_t_text, .inl (cI, 120, .inl r_t_text))] H) _ hS => ?_)
      refine lv_aload_n hx hb dX7_readSpelled_60 rfl (lv_at hl 2 rfl) ?_
      refine lv_iconst (v := (1)) hx hb dX7_readSpelled_61 (by decide) ?_
      refine lv_iload_n hx hb dX7_readSpelled_62 rfl (lv_at hl 0 rfl) ?_
      refine lv_bipush (v := (100)) hx hb dX7_readSpelled_63 (by decide) ?_
      refine lv_idiv hx hb dX7_readSpelled_65 (by decide) ?_
      refine lv_bipush (v := (10)) hx hb dX7_readSpelled_66 (by decide) ?_
      refine lv_irem hx hb dX7_readSpelled_68 (by decide) ?_
      refine lv_isub hx hb dX7_readSpelled_69 ?_
      obtain ⟨ru11, v_t_place_u11, hu11, hf⟩ := pn_bd2_at hf
      refine pn_calli [0, 2] (va_runV (As := [.int ((1 : Int32) - ((ru4 / (100 : Int32)) - (ru4 / (100 : Int32)) / (10 : Int32) * (10 : Int32)))]) (rest := []) ⟨hx, hb, hml, hown, hts⟩ (c_X7_takeReport l D cI cJ cZ a_t a_t_text a_t_readPage a_t_page a_t_trial a_t_work a_t_book a_t_kept a_t_isKept a_t_seenWhat a_t_seenV a_t_seenIs a_t_label a_t_finds a_t_reason a_t_caseFirst a_t_brief a_t_printed a_t_renamed a_t_worth H.size v_t_thrown v_t_doings v_t_seen v_t_seed v_t_cases v_t_printedSize v_t_lastReason v_t_textSize z10 r_t_text ((1 : Int32) - ((ru4 / (100 : Int32)) - (ru4 / (100 : Int32)) / (10 : Int32) * (10 : Int32))) ru11 v_t_place_u11 hu11) (cwV 1 hts gX7_readSpelled_X7_takeReport rfl rfl rfl hdX7_takeReport ⟨Nat.le_of_ble_eq_true rfl, Nat.le_of_ble_eq_true rfl⟩) (pn_preV [0, 2] hP (hD.addr rfl) hK rfl rfl (q0 := 0) (ci := 6) rfl rfl) rfl rfl hl.1 rfl (lv_room (Nat.le_of_ble_eq_true rfl)) dX7_readSpelled_70 ⟨Nat.zero_le _, Nat.zero_le _⟩) hP (hD.addr rfl) hS hA rfl rfl rfl (fun H locs (hP : va_P D vwCl [(a_t, .inr (6, [.int v_t_thrown, .ref a_t_text, .int v_t_textSize, .int v_t_place_u11, .ref a_t_readPage, .ref a_t_page, .ref a_t_trial, .ref a_t_work, .ref a_t_book, .int v_t_doings, .ref a_t_kept, .ref a_t_isKept, .int v_t_seen, .ref a_t_seenWhat, .ref a_t_seenV, .ref a_t_seenIs, .long v_t_seed, .ref a_t_label, .ref a_t_finds, .ref a_t_reason, .ref a_t_caseFirst, .int v_t_cases, .ref a_t_brief, .ref a_t_printed, .int v_t_printedSize, .ref a_t_renamed, .ref a_t_worth, .int v_t_lastReason])), (a_t_readPage, .inl (cI, 265, .inl g6)), (a_t_text, .inl (cI, 120, .inl r_t_text))] H) _ hS => ?_)
      refine lv_istore (lv' := [(4, .int ru11), (3, .int ru4), (2, .int ru1), (0, .ref a_t), (1, .int p1)]) hx hb dX7_readSpelled_73 hl (by decide) rfl (fun ls hl => ?_)
      refine lv_aload_n hx hb dX7_readSpelled_75 rfl (lv_at hl 3 rfl) ?_
      refine va_get (D := D) (ci := 6) (v := .ref a_t_readPage) (C := RX7) (T := TX7) (N := 28) hx hb hts hinX7 hown hK.1 hP 0 rfl rfl 4 (by decide) fl_13 (fun _ h9 => h9) rfl dX7_readSpelled_76 ?_
      refine lv_iload_n hx hb dX7_readSpelled_79 rfl (lv_at hl 4 rfl) ?_
      refine lv_iconst (v := (4)) hx hb dX7_readSpelled_80 (by decide) ?_
      refine lv_iadd hx hb dX7_readSpelled_81 ?_
      refine lv_iload hx hb dX7_readSpelled_82 (lv_at hl 0 rfl) ?_
      obtain ⟨hi13, g12, eg12, hf⟩ := pn_wrI_at hf
      refine pn_stI hx hb hK.1 hP (hD.addr rfl) hS 1 0 rfl rfl hi13 eg12 dX7_readSpelled_84 (fun H locs (hP : va_P D vwCl [(a_t, .inr (6, [.int v_t_thrown, .ref a_t_text, .int v_t_textSize, .int v_t_place_u11, .ref a_t_readPage, .ref a_t_page, .ref a_t_trial, .ref a_t_work, .ref a_t_book, .int v_t_doings, .ref a_t_kept, .ref a_t_isKept, .int v_t_seen, .ref a_t_seenWhat, .ref a_t_seenV, .ref a_t_seenIs, .long v_t_seed, .ref a_t_label, .ref a_t_finds, .ref a_t_reason, .ref a_t_caseFirst, .int v_t_cases, .ref a_t_brief, .ref a_t_printed, .int v_t_printedSize, .ref a_t_renamed, .ref a_t_worth, .int v_t_lastReason])), (a_t_readPage, .inl (cI, 265, .inl g12)), (a_t_text, .inl (cI, 120, .inl r_t_text))] H) _ hS => ?_)
      refine lv_iload hx hb dX7_readSpelled_85 (lv_at hl 0 rfl) ?_
      refine lv_bipush (v := (-9)) hx hb dX7_readSpelled_87 (by decide) ?_
      refine lv_icmp_eq (tgt := 96) hx hb dX7_readSpelled_89 (by decide) (fun c14 => ?_) (fun c14 => ?_)
      · have hf := pn_ifp c14 hf
        refine lv_iconst (v := (0)) hx hb dX7_readSpelled_96 (by decide) ?_
        cases hf
        rw [hQ]
        exact pn_retz hx hb hr hlocks hP hS rfl rfl dX7_readSpelled_97
      · have hf := pn_ifn c14 hf
        refine lv_iconst (v := (1)) hx hb dX7_readSpelled_92 (by decide) ?_
        refine lv_goto (tgt := 97) hx hb dX7_readSpelled_93 (by decide) ?_
        cases hf
        rw [hQ]
        exact pn_retz hx hb hr hlocks hP hS rfl rfl dX7_readSpelled_97
  · have hf := pn_ifq c5 hf
    refine lv_iconst (v := (0)) hx hb dX7_readSpelled_30 (by decide) ?_
    cases hf
    rw [hQ]
    exact pn_retz hx hb hr hlocks hP hS rfl rfl dX7_readSpelled_31
def f_X7_readAbove (v_t_textSize : Int32) (v_t_place : Int32) (r_t_readPage : Nat → Int32) (r_t_text : Nat → Int32) (p1 : Int32) : Option (Int32 × Int32 × (Nat → Int32)) :=
  pn_wrI 265 r_t_readPage (p1 + (0 : Int32)) (3 : Int32) fun g1 =>
  pn_bd2 (f_X7_take v_t_textSize v_t_place r_t_text (48 : Int32) (0 : Int32) (9 : Int32)) fun ru3 v_t_place_u3 =>
  pn_wrI 265 g1 (p1 + (6 : Int32)) ru3 fun g4 =>
  if ¬ ru3 = (-9 : Int32) then
  pn_bd2 (f_X7_take v_t_textSize v_t_place_u3 r_t_text (65 : Int32) (0 : Int32) (5 : Int32)) fun ru7 v_t_place_u7 =>
  pn_wrI 265 g4 (p1 + (5 : Int32)) ru7 fun g8 =>
  if ru7 = (-9 : Int32) then
  some ((0 : Int32), v_t_place_u7, g8)
  else
  some ((1 : Int32), v_t_place_u7, g8)
  else
  pn_wrI 265 g4 (p1 + (5 : Int32)) (-9 : Int32) fun g11 =>
  if (-9 : Int32) = (-9 : Int32) then
  some ((0 : Int32), v_t_place_u3, g11)
  else
  some ((1 : Int32), v_t_place_u3, g11)
set_option maxHeartbeats 4000000 in
set_option maxRecDepth 100000 in
theorem c_X7_readAbove (l : Launch) (D : va_G) (cI cJ cZ : ClassId) (a_t a_t_text a_t_readPage a_t_page a_t_trial a_t_work a_t_book a_t_kept a_t_isKept a_t_seenWhat a_t_seenV a_t_seenIs a_t_label a_t_finds a_t_reason a_t_caseFirst a_t_brief a_t_printed a_t_renamed a_t_worth : Nat) (sz : Nat) (v_t_thrown : Int32) (v_t_doings : Int32) (v_t_seen : Int32) (v_t_seed : Int64) (v_t_cases : Int32) (v_t_printedSize : Int32) (v_t_lastReason : Int32) (v_t_textSize : Int32) (v_t_place : Int32) (r_t_readPage : Nat → Int32) (r_t_text : Nat → Int32) (p1 : Int32) (rR : Int32) (o_t_place : Int32) (o_t_readPage : Nat → Int32) (hf : f_X7_readAbove v_t_textSize v_t_place r_t_readPage r_t_text p1 = some (rR, o_t_place, o_t_readPage)) : Met l yX7_readAbove wsX7_readAbove { frames := 2, cells := 0, slots := 0, locals := 49 } (pn_Pc D cI cJ cZ [.ref a_t, .int p1] [(a_t, .inr (6, [.int v_t_thrown, .ref a_t_text, .int v_t_textSize, .int v_t_place, .ref a_t_readPage, .ref a_t_page, .ref a_t_trial, .ref a_t_work, .ref a_t_book, .int v_t_doings, .ref a_t_kept, .ref a_t_isKept, .int v_t_seen, .ref a_t_seenWhat, .ref a_t_seenV, .ref a_t_seenIs, .long v_t_seed, .ref a_t_label, .ref a_t_finds, .ref a_t_reason, .ref a_t_caseFirst, .int v_t_cases, .ref a_t_brief, .ref a_t_printed, .int v_t_printedSize, .ref a_t_renamed, .ref a_t_worth, .int v_t_lastReason])), (a_t_readPage, .inl (cI, 265, .inl r_t_readPage)), (a_t_text, .inl (cI, 120, .inl r_t_text))] sz) (pn_Qi D rR [(a_t, .inr (6, [.int v_t_thrown, .ref a_t_text, .int v_t_textSize, .int o_t_place, .ref a_t_readPage, .ref a_t_page, .ref a_t_trial, .ref a_t_work, .ref a_t_book, .int v_t_doings, .ref a_t_kept, .ref a_t_isKept, .int v_t_seen, .ref a_t_seenWhat, .ref a_t_seenV, .ref a_t_seenIs, .long v_t_seed, .ref a_t_label, .ref a_t_finds, .ref a_t_reason, .ref a_t_caseFirst, .int v_t_cases, .ref a_t_brief, .ref a_t_printed, .int v_t_printedSize, .ref a_t_renamed, .ref a_t_worth, .int v_t_lastReason])), (a_t_readPage, .inl (cI, 265, .inl o_t_readPage)), (a_t_text, .inl (cI, 120, .inl r_t_text))] (va_A [(a_t, .inr (6, [.int v_t_thrown, .ref a_t_text, .int v_t_textSize, .int v_t_place, .ref a_t_readPage, .ref a_t_page, .ref a_t_trial, .ref a_t_work, .ref a_t_book, .int v_t_doings, .ref a_t_kept, .ref a_t_isKept, .int v_t_seen, .ref a_t_seenWhat, .ref a_t_seenV, .ref a_t_seenIs, .long v_t_seed, .ref a_t_label, .ref a_t_finds, .ref a_t_reason, .ref a_t_caseFirst, .int v_t_cases, .ref a_t_brief, .ref a_t_printed, .int v_t_printedSize, .ref a_t_renamed, .ref a_t_worth, .int v_t_lastReason])), (a_t_readPage, .inl (cI, 265, .inl r_t_readPage)), (a_t_text, .inl (cI, 120, .inl r_t_text))] sz)) 0 0 (va_A [(a_t, .inr (6, [.int v_t_thrown, .ref a_t_text, .int v_t_textSize, .int v_t_place, .ref a_t_readPage, .ref a_t_page, .ref a_t_trial, .ref a_t_work, .ref a_t_book, .int v_t_doings, .ref a_t_kept, .ref a_t_isKept, .int v_t_seen, .ref a_t_seenWhat, .ref a_t_seenV, .ref a_t_seenIs, .long v_t_seed, .ref a_t_label, .ref a_t_finds, .ref a_t_reason, .ref a_t_caseFirst, .int v_t_cases, .ref a_t_brief, .ref a_t_printed, .int v_t_printedSize, .ref a_t_renamed, .ref a_t_worth, .int v_t_lastReason])), (a_t_readPage, .inl (cI, 265, .inl r_t_readPage)), (a_t_text, .inl (cI, 120, .inl r_t_text))] sz) := by
  refine pn_entry (cc := cX7_readAbove) (maxL := 4) (ret := (some .boolean)) (Qf := pn_Qi D rR [(a_t, .inr (6, [.int v_t_thrown, .ref a_t_text, .int v_t_textSize, .int o_t_place, .ref a_t_readPage, .ref a_t_page, .ref a_t_trial, .ref a_t_work, .ref a_t_book, .int v_t_doings, .ref a_t_kept, .ref a_t_isKept, .int v_t_seen, .ref a_t_seenWhat, .ref a_t_seenV, .ref a_t_seenIs, .long v_t_seed, .ref a_t_label, .ref a_t_finds, .ref a_t_reason, .ref a_t_caseFirst, .int v_t_cases, .ref a_t_brief, .ref a_t_printed, .int v_t_printedSize, .ref a_t_renamed, .ref a_t_worth, .int v_t_lastReason])), (a_t_readPage, .inl (cI, 265, .inl o_t_readPage)), (a_t_text, .inl (cI, 120, .inl r_t_text))]) (by decide) rfl (Nat.le_of_ble_eq_true rfl) ?_
  intro p e s m args below meth c A ls H locs Qm hQ hx hb hr hlocks hml hown hts hK hP hD hA hS hl
  have hl : lv_has ls 4 [(0, .ref a_t), (1, .int p1)] := hl
  have hinX7 : ∀ w ∈ wsX70, w ∈ wsX7_readAbove := by decide +kernel
  have fl_13 := hts (.fieldLink RX7 13 "PointingNotesModel" "readPage" "[I") (by decide +kernel)
  rw [f_X7_readAbove] at hf
  refine lv_aload_n hx hb dX7_readAbove_0 rfl (lv_at hl 0 rfl) ?_
  refine va_get (D := D) (ci := 6) (v := .ref a_t_readPage) (C := RX7) (T := TX7) (N := 28) hx hb hts hinX7 hown hK.1 hP 0 rfl rfl 4 (by decide) fl_13 (fun _ h9 => h9) rfl dX7_readAbove_1 ?_
  refine lv_iload_n hx hb dX7_readAbove_4 rfl (lv_at hl 1 rfl) ?_
  refine lv_iconst (v := (0)) hx hb dX7_readAbove_5 (by decide) ?_
  refine lv_iadd hx hb dX7_readAbove_6 ?_
  refine lv_iconst (v := (3)) hx hb dX7_readAbove_7 (by decide) ?_
  obtain ⟨hi2, g1, eg1, hf⟩ := pn_wrI_at hf
  refine pn_stI hx hb hK.1 hP (hD.addr rfl) hS 1 0 rfl rfl hi2 eg1 dX7_readAbove_8 (fun H locs (hP : va_P D vwCl [(a_t, .inr (6, [.int v_t_thrown, .ref a_t_text, .int v_t_textSize, .int v_t_place, .ref a_t_readPage, .ref a_t_page, .ref a_t_trial, .ref a_t_work, .ref a_t_book, .int v_t_doings, .ref a_t_kept, .ref a_t_isKept, .int v_t_seen, .ref a_t_seenWhat, .ref a_t_seenV, .ref a_t_seenIs, .long v_t_seed, .ref a_t_label, .ref a_t_finds, .ref a_t_reason, .ref a_t_caseFirst, .int v_t_cases, .ref a_t_brief, .ref a_t_printed, .int v_t_printedSize, .ref a_t_renamed, .ref a_t_worth, .int v_t_lastReason])), (a_t_readPage, .inl (cI, 265, .inl g1)), (a_t_text, .inl (cI, 120, .inl r_t_text))] H) _ hS => ?_)
  refine lv_aload_n hx hb dX7_readAbove_9 rfl (lv_at hl 0 rfl) ?_
  refine lv_bipush (v := (48)) hx hb dX7_readAbove_10 (by decide) ?_
  refine lv_iconst (v := (0)) hx hb dX7_readAbove_12 (by decide) ?_
  refine lv_bipush (v := (9)) hx hb dX7_readAbove_13 (by decide) ?_
  obtain ⟨ru3, v_t_place_u3, hu3, hf⟩ := pn_bd2_at hf
  refine pn_calli [0, 2] (va_runV (As := [.int (48 : Int32), .int (0 : Int32), .int (9 : Int32)]) (rest := []) ⟨hx, hb, hml, hown, hts⟩ (c_X7_take l D cI cJ cZ a_t a_t_text a_t_readPage a_t_page a_t_trial a_t_work a_t_book a_t_kept a_t_isKept a_t_seenWhat a_t_seenV a_t_seenIs a_t_label a_t_finds a_t_reason a_t_caseFirst a_t_brief a_t_printed a_t_renamed a_t_worth H.size v_t_thrown v_t_doings v_t_seen v_t_seed v_t_cases v_t_printedSize v_t_lastReason v_t_textSize v_t_place r_t_text (48 : Int32) (0 : Int32) (9 : Int32) ru3 v_t_place_u3 hu3) (cwV 3 hts gX7_readAbove_X7_take rfl rfl rfl hdX7_take ⟨Nat.le_of_ble_eq_true rfl, Nat.le_of_ble_eq_true rfl⟩) (pn_preV [0, 2] hP (hD.addr rfl) hK rfl rfl (q0 := 0) (ci := 6) rfl rfl) rfl rfl hl.1 rfl (lv_room (Nat.le_of_ble_eq_true rfl)) dX7_readAbove_15 ⟨Nat.zero_le _, Nat.zero_le _⟩) hP (hD.addr rfl) hS hA rfl rfl rfl (fun H locs (hP : va_P D vwCl [(a_t, .inr (6, [.int v_t_thrown, .ref a_t_text, .int v_t_textSize, .int v_t_place_u3, .ref a_t_readPage, .ref a_t_page, .ref a_t_trial, .ref a_t_work, .ref a_t_book, .int v_t_doings, .ref a_t_kept, .ref a_t_isKept, .int v_t_seen, .ref a_t_seenWhat, .ref a_t_seenV, .ref a_t_seenIs, .long v_t_seed, .ref a_t_label, .ref a_t_finds, .ref a_t_reason, .ref a_t_caseFirst, .int v_t_cases, .ref a_t_brief, .ref a_t_printed, .int v_t_printedSize, .ref a_t_renamed, .ref a_t_worth, .int v_t_lastReason])), (a_t_readPage, .inl (cI, 265, .inl g1)), (a_t_text, .inl (cI, 120, .inl r_t_text))] H) _ hS => ?_)
  refine lv_istore_n (lv' := [(2, .int ru3), (0, .ref a_t), (1, .int p1)]) hx hb dX7_readAbove_18 rfl hl (by decide) rfl (fun ls hl => ?_)
  refine lv_aload_n hx hb dX7_readAbove_19 rfl (lv_at hl 1 rfl) ?_
  refine va_get (D := D) (ci := 6) (v := .ref a_t_readPage) (C := RX7) (T := TX7) (N := 28) hx hb hts hinX7 hown hK.1 hP 0 rfl rfl 4 (by decide) fl_13 (fun _ h9 => h9) rfl dX7_readAbove_20 ?_
  refine lv_iload_n hx hb dX7_readAbove_23 rfl (lv_at hl 2 rfl) ?_
  refine lv_bipush (v := (6)) hx hb dX7_readAbove_24 (by decide) ?_
  refine lv_iadd hx hb dX7_readAbove_26 ?_
  refine lv_iload_n hx hb dX7_readAbove_27 rfl (lv_at hl 0 rfl) ?_
  obtain ⟨hi5, g4, eg4, hf⟩ := pn_wrI_at hf
  refine pn_stI hx hb hK.1 hP (hD.addr rfl) hS 1 0 rfl rfl hi5 eg4 dX7_readAbove_28 (fun H locs (hP : va_P D vwCl [(a_t, .inr (6, [.int v_t_thrown, .ref a_t_text, .int v_t_textSize, .int v_t_place_u3, .ref a_t_readPage, .ref a_t_page, .ref a_t_trial, .ref a_t_work, .ref a_t_book, .int v_t_doings, .ref a_t_kept, .ref a_t_isKept, .int v_t_seen, .ref a_t_seenWhat, .ref a_t_seenV, .ref a_t_seenIs, .long v_t_seed, .ref a_t_label, .ref a_t_finds, .ref a_t_reason, .ref a_t_caseFirst, .int v_t_cases, .ref a_t_brief, .ref a_t_printed, .int v_t_printedSize, .ref a_t_renamed, .ref a_t_worth, .int v_t_lastReason])), (a_t_readPage, .inl (cI, 265, .inl g4)), (a_t_text, .inl (cI, 120, .inl r_t_text))] H) _ hS => ?_)
  refine lv_iload_n hx hb dX7_readAbove_29 rfl (lv_at hl 0 rfl) ?_
  refine lv_bipush (v := (-9)) hx hb dX7_readAbove_30 (by decide) ?_
  refine lv_icmp_ne (tgt := 40) hx hb dX7_readAbove_32 (by decide) (fun c6 => ?_) (fun c6 => ?_)
  · have hf := pn_ifp c6 hf
    refine lv_aload_n hx hb dX7_readAbove_40 rfl (lv_at hl 1 rfl) ?_
    refine lv_bipush (v := (65)) hx hb dX7_readAbove_41 (by decide) ?_
    refine lv_iconst (v := (0)) hx hb dX7_readAbove_43 (by decide) ?_
    refine lv_iconst (v := (5)) hx hb dX7_readAbove_44 (by decide) ?_
    obtain ⟨ru7, v_t_place_u7, hu7, hf⟩ := pn_bd2_at hf
    refine pn_calli [0, 2] (va_runV (As := [.int (65 : Int32), .int (0 : Int32), .int (5 : Int32)]) (rest := []) ⟨hx, hb, hml, hown, hts⟩ (c_X7_take l D cI cJ cZ a_t a_t_text a_t_readPage a_t_page a_t_trial a_t_work a_t_book a_t_kept a_t_isKept a_t_seenWhat a_t_seenV a_t_seenIs a_t_label a_t_finds a_t_reason a_t_caseFirst a_t_brief a_t_printed a_t_renamed a_t_worth H.size v_t_thrown v_t_doings v_t_seen v_t_seed v_t_cases v_t_printedSize v_t_lastReason v_t_textSize v_t_place_u3 r_t_text (65 : Int32) (0 : Int32) (5 : Int32) ru7 v_t_place_u7 hu7) (cwV 3 hts gX7_readAbove_X7_take rfl rfl rfl hdX7_take ⟨Nat.le_of_ble_eq_true rfl, Nat.le_of_ble_eq_true rfl⟩) (pn_preV [0, 2] hP (hD.addr rfl) hK rfl rfl (q0 := 0) (ci := 6) rfl rfl) rfl rfl hl.1 rfl (lv_room (Nat.le_of_ble_eq_true rfl)) dX7_readAbove_45 ⟨Nat.zero_le _, Nat.zero_le _⟩) hP (hD.addr rfl) hS hA rfl rfl rfl (fun H locs (hP : va_P D vwCl [(a_t, .inr (6, [.int v_t_thrown, .ref a_t_text, .int v_t_textSize, .int v_t_place_u7, .ref a_t_readPage, .ref a_t_page, .ref a_t_trial, .ref a_t_work, .ref a_t_book, .int v_t_doings, .ref a_t_kept, .ref a_t_isKept, .int v_t_seen, .ref a_t_seenWhat, .ref a_t_seenV, .ref a_t_seenIs, .long v_t_seed, .ref a_t_label, .ref a_t_finds, .ref a_t_reason, .ref a_t_caseFirst, .int v_t_cases, .ref a_t_brief, .ref a_t_printed, .int v_t_printedSize, .ref a_t_renamed, .ref a_t_worth, .int v_t_lastReason])), (a_t_readPage, .inl (cI, 265, .inl g4)), (a_t_text, .inl (cI, 120, .inl r_t_text))] H) _ hS => ?_)
    refine lv_istore_n (lv' := [(3, .int ru7), (2, .int ru3), (0, .ref a_t), (1, .int p1)]) hx hb dX7_readAbove_48 rfl hl (by decide) rfl (fun ls hl => ?_)
    refine lv_aload_n hx hb dX7_readAbove_49 rfl (lv_at hl 2 rfl) ?_
    refine va_get (D := D) (ci := 6) (v := .ref a_t_readPage) (C := RX7) (T := TX7) (N := 28) hx hb hts hinX7 hown hK.1 hP 0 rfl rfl 4 (by decide) fl_13 (fun _ h9 => h9) rfl dX7_readAbove_50 ?_
    refine lv_iload_n hx hb dX7_readAbove_53 rfl (lv_at hl 3 rfl) ?_
    refine lv_iconst (v := (5)) hx hb dX7_readAbove_54 (by decide) ?_
    refine lv_iadd hx hb dX7_readAbove_55 ?_
    refine lv_iload_n hx hb dX7_readAbove_56 rfl (lv_at hl 0 rfl) ?_
    obtain ⟨hi9, g8, eg8, hf⟩ := pn_wrI_at hf
    refine pn_stI hx hb hK.1 hP (hD.addr rfl) hS 1 0 rfl rfl hi9 eg8 dX7_readAbove_57 (fun H locs (hP : va_P D vwCl [(a_t, .inr (6, [.int v_t_thrown, .ref a_t_text, .int v_t_textSize, .int v_t_place_u7, .ref a_t_readPage, .ref a_t_page, .ref a_t_trial, .ref a_t_work, .ref a_t_book, .int v_t_doings, .ref a_t_kept, .ref a_t_isKept, .int v_t_seen, .ref a_t_seenWhat, .ref a_t_seenV, .ref a_t_seenIs, .long v_t_seed, .ref a_t_label, .ref a_t_finds, .ref a_t_reason, .ref a_t_caseFirst, .int v_t_cases, .ref a_t_brief, .ref a_t_printed, .int v_t_printedSize, .ref a_t_renamed, .ref a_t_worth, .int v_t_lastReason])), (a_t_readPage, .inl (cI, 265, .inl g8)), (a_t_text, .inl (cI, 120, .inl r_t_text))] H) _ hS => ?_)
    refine lv_iload_n hx hb dX7_readAbove_58 rfl (lv_at hl 0 rfl) ?_
    refine lv_bipush (v := (-9)) hx hb dX7_readAbove_59 (by decide) ?_
    refine lv_icmp_eq (tgt := 68) hx hb dX7_readAbove_61 (by decide) (fun c10 => ?_) (fun c10 => ?_)
    · have hf := pn_ifp c10 hf
      refine lv_iconst (v := (0)) hx hb dX7_readAbove_68 (by decide) ?_
      cases hf
      rw [hQ]
      exact pn_retz hx hb hr hlocks hP hS rfl rfl dX7_readAbove_69
    · have hf := pn_ifn c10 hf
      refine lv_iconst (v := (1)) hx hb dX7_readAbove_64 (by decide) ?_
      refine lv_goto (tgt := 69) hx hb dX7_readAbove_65 (by decide) ?_
      cases hf
      rw [hQ]
      exact pn_retz hx hb hr hlocks hP hS rfl rfl dX7_readAbove_69
  · have hf := pn_ifq c6 hf
    refine lv_bipush (v := (-9)) hx hb dX7_readAbove_35 (by decide) ?_
    refine lv_goto (tgt := 48) hx hb dX7_readAbove_37 (by decide) ?_
    refine lv_istore_n (lv' := [(3, .int (-9 : Int32)), (2, .int ru3), (0, .ref a_t), (1, .int p1)]) hx hb dX7_readAbove_48 rfl hl (by decide) rfl (fun ls hl => ?_)
    refine lv_aload_n hx hb dX7_readAbove_49 rfl (lv_at hl 2 rfl) ?_
    refine va_get (D := D) (ci := 6) (v := .ref a_t_readPage) (C := RX7) (T := TX7) (N := 28) hx hb hts hinX7 hown hK.1 hP 0 rfl rfl 4 (by decide) fl_13 (fun _ h9 => h9) rfl dX7_readAbove_50 ?_
    refine lv_iload_n hx hb dX7_readAbove_53 rfl (lv_at hl 3 rfl) ?_
    refine lv_iconst (v := (5)) hx hb dX7_readAbove_54 (by decide) ?_
    refine lv_iadd hx hb dX7_readAbove_55 ?_
    refine lv_iload_n hx hb dX7_readAbove_56 rfl (lv_at hl 0 rfl) ?_
    obtain ⟨hi12, g11, eg11, hf⟩ := pn_wrI_at hf
    refine pn_stI hx hb hK.1 hP (hD.addr rfl) hS 1 0 rfl rfl hi12 eg11 dX7_readAbove_57 (fun H locs (hP : va_P D vwCl [(a_t, .inr (6, [.int v_t_thrown, .ref a_t_text, .int v_t_textSize, .int v_t_place_u3, .ref a_t_readPage, .ref a_t_page, .ref a_t_trial, .ref a_t_work, .ref a_t_book, .int v_t_doings, .ref a_t_kept, .ref a_t_isKept, .int v_t_seen, .ref a_t_seenWhat, .ref a_t_seenV, .ref a_t_seenIs, .long v_t_seed, .ref a_t_label, .ref a_t_finds, .ref a_t_reason, .ref a_t_caseFirst, .int v_t_cases, .ref a_t_brief, .ref a_t_printed, .int v_t_printedSize, .ref a_t_renamed, .ref a_t_worth, .int v_t_lastReason])), (a_t_readPage, .inl (cI, 265, .inl g11)), (a_t_text, .inl (cI, 120, .inl r_t_text))] H) _ hS => ?_)
    refine lv_iload_n hx hb dX7_readAbove_58 rfl (lv_at hl 0 rfl) ?_
    refine lv_bipush (v := (-9)) hx hb dX7_readAbove_59 (by decide) ?_
    refine lv_icmp_eq (tgt := 68) hx hb dX7_readAbove_61 (by decide) (fun c13 => ?_) (fun c13 => ?_)
    · have hf := pn_ifp c13 hf
      refine lv_iconst (v := (0)) hx hb dX7_readAbove_68 (by decide) ?_
      cases hf
      rw [hQ]
      exact pn_retz hx hb hr hlocks hP hS rfl rfl dX7_readAbove_69
    · have hf := pn_ifn c13 hf
      refine lv_iconst (v := (1)) hx hb dX7_readAbove_64 (by decide) ?_
      refine lv_goto (tgt := 69) hx hb dX7_readAbove_65 (by decide) ?_
      cases hf
      rw [hQ]
      exact pn_retz hx hb hr hlocks hP hS rfl rfl dX7_readAbove_69
def f_X7_readName (v_t_textSize : Int32) (v_t_place : Int32) (r_t_readPage : Nat → Int32) (r_t_text : Nat → Int32) (p1 : Int32) : Option (Int32 × Int32 × (Nat → Int32)) :=
  pn_bd2 (f_X7_take v_t_textSize v_t_place r_t_text (65 : Int32) (0 : Int32) (5 : Int32)) fun ru1 v_t_place_u1 =>
  if ¬ ru1 = (-9 : Int32) then
  pn_bd1 (f_X7_next v_t_textSize v_t_place_u1 r_t_text) fun ru3 =>
  pn_bd1 (f_X7_in ru3.toInt64 (65 : Int64) (70 : Int64)) fun ru4 =>
  if ru4 = 0 then
  pn_wrI 265 r_t_readPage (p1 + (0 : Int32)) (1 : Int32) fun g6 =>
  pn_wrI 265 g6 (p1 + (5 : Int32)) ru1 fun g8 =>
  some ((1 : Int32), v_t_place_u1, g8)
  else
  pn_bd1 (f_X7_next v_t_textSize v_t_place_u1 r_t_text) fun ru10 =>
  if ru10 = ((65 : Int32) + ru1) then
  pn_wrI 265 r_t_readPage (p1 + (0 : Int32)) (1 : Int32) fun g12 =>
  pn_wrI 265 g12 (p1 + (5 : Int32)) ru1 fun g14 =>
  some ((1 : Int32), v_t_place_u1, g14)
  else
  pn_wrI 265 r_t_readPage (p1 + (0 : Int32)) (0 : Int32) fun g16 =>
  pn_wrI 265 g16 (p1 + (1 : Int32)) ru1 fun g18 =>
  pn_bd3 (f_X7_readSpelled v_t_textSize v_t_place_u1 g18 r_t_text p1) fun ru20 v_t_place_u20 r_t_readPage_u20 =>
  pn_bz ru20 <|
  some (ru20, v_t_place_u20, r_t_readPage_u20)
  else
  some ((0 : Int32), v_t_place_u1, r_t_readPage)
set_option maxHeartbeats 4000000 in
set_option maxRecDepth 100000 in
theorem c_X7_readName (l : Launch) (D : va_G) (cI cJ cZ : ClassId) (a_t a_t_text a_t_readPage a_t_page a_t_trial a_t_work a_t_book a_t_kept a_t_isKept a_t_seenWhat a_t_seenV a_t_seenIs a_t_label a_t_finds a_t_reason a_t_caseFirst a_t_brief a_t_printed a_t_renamed a_t_worth : Nat) (sz : Nat) (v_t_thrown : Int32) (v_t_doings : Int32) (v_t_seen : Int32) (v_t_seed : Int64) (v_t_cases : Int32) (v_t_printedSize : Int32) (v_t_lastReason : Int32) (v_t_textSize : Int32) (v_t_place : Int32) (r_t_readPage : Nat → Int32) (r_t_text : Nat → Int32) (p1 : Int32) (rR : Int32) (o_t_place : Int32) (o_t_readPage : Nat → Int32) (hf : f_X7_readName v_t_textSize v_t_place r_t_readPage r_t_text p1 = some (rR, o_t_place, o_t_readPage)) : Met l yX7_readName wsX7_readName { frames := 5, cells := 0, slots := 0, locals := 119 } (pn_Pc D cI cJ cZ [.ref a_t, .int p1] [(a_t, .inr (6, [.int v_t_thrown, .ref a_t_text, .int v_t_textSize, .int v_t_place, .ref a_t_readPage, .ref a_t_page, .ref a_t_trial, .ref a_t_work, .ref a_t_book, .int v_t_doings, .ref a_t_kept, .ref a_t_isKept, .int v_t_seen, .ref a_t_seenWhat, .ref a_t_seenV, .ref a_t_seenIs, .long v_t_seed, .ref a_t_label, .ref a_t_finds, .ref a_t_reason, .ref a_t_caseFirst, .int v_t_cases, .ref a_t_brief, .ref a_t_printed, .int v_t_printedSize, .ref a_t_renamed, .ref a_t_worth, .int v_t_lastReason])), (a_t_readPage, .inl (cI, 265, .inl r_t_readPage)), (a_t_text, .inl (cI, 120, .inl r_t_text))] sz) (pn_Qi D rR [(a_t, .inr (6, [.int v_t_thrown, .ref a_t_text, .int v_t_textSize, .int o_t_place, .ref a_t_readPage, .ref a_t_page, .ref a_t_trial, .ref a_t_work, .ref a_t_book, .int v_t_doings, .ref a_t_kept, .ref a_t_isKept, .int v_t_seen, .ref a_t_seenWhat, .ref a_t_seenV, .ref a_t_seenIs, .long v_t_seed, .ref a_t_label, .ref a_t_finds, .ref a_t_reason, .ref a_t_caseFirst, .int v_t_cases, .ref a_t_brief, .ref a_t_printed, .int v_t_printedSize, .ref a_t_renamed, .ref a_t_worth, .int v_t_lastReason])), (a_t_readPage, .inl (cI, 265, .inl o_t_readPage)), (a_t_text, .inl (cI, 120, .inl r_t_text))] (va_A [(a_t, .inr (6, [.int v_t_thrown, .ref a_t_text, .int v_t_textSize, .int v_t_place, .ref a_t_readPage, .ref a_t_page, .ref a_t_trial, .ref a_t_work, .ref a_t_book, .int v_t_doings, .ref a_t_kept, .ref a_t_isKept, .int v_t_seen, .ref a_t_seenWhat, .ref a_t_seenV, .ref a_t_seenIs, .long v_t_seed, .ref a_t_label, .ref a_t_finds, .ref a_t_reason, .ref a_t_caseFirst, .int v_t_cases, .ref a_t_brief, .ref a_t_printed, .int v_t_printedSize, .ref a_t_renamed, .ref a_t_worth, .int v_t_lastReason])), (a_t_readPage, .inl (cI, 265, .inl r_t_readPage)), (a_t_text, .inl (cI, 120, .inl r_t_text))] sz)) 0 0 (va_A [(a_t, .inr (6, [.int v_t_thrown, .ref a_t_text, .int v_t_textSize, .int v_t_place, .ref a_t_readPage, .ref a_t_page, .ref a_t_trial, .ref a_t_work, .ref a_t_book, .int v_t_doings, .ref a_t_kept, .ref a_t_isKept, .int v_t_seen, .ref a_t_seenWhat, .ref a_t_seenV, .ref a_t_seenIs, .long v_t_seed, .ref a_t_label, .ref a_t_finds, .ref a_t_reason, .ref a_t_caseFirst, .int v_t_cases, .ref a_t_brief, .ref a_t_printed, .int v_t_printedSize, .ref a_t_renamed, .ref a_t_worth, .int v_t_lastReason])), (a_t_readPage, .inl (cI, 265, .inl r_t_readPage)), (a_t_text, .inl (cI, 120, .inl r_t_text))] sz) := by
  refine pn_entry (cc := cX7_readName) (maxL := 3) (ret := (some .boolean)) (Qf := pn_Qi D rR [(a_t, .inr (6, [.int v_t_thrown, .ref a_t_text, .int v_t_textSize, .int o_t_place, .ref a_t_readPage, .ref a_t_page, .ref a_t_trial, .ref a_t_work, .ref a_t_book, .int v_t_doings, .ref a_t_kept, .ref a_t_isKept, .int v_t_seen, .ref a_t_seenWhat, .ref a_t_seenV, .ref a_t_seenIs, .long v_t_seed, .ref a_t_label, .ref a_t_finds, .ref a_t_reason, .ref a_t_caseFirst, .int v_t_cases, .ref a_t_brief, .ref a_t_printed, .int v_t_printedSize, .ref a_t_renamed, .ref a_t_worth, .int v_t_lastReason])), (a_t_readPage, .inl (cI, 265, .inl o_t_readPage)), (a_t_text, .inl (cI, 120, .inl r_t_text))]) (by decide) rfl (Nat.le_of_ble_eq_true rfl) ?_
  intro p e s m args below meth c A ls H locs Qm hQ hx hb hr hlocks hml hown hts hK hP hD hA hS hl
  have hl : lv_has ls 3 [(0, .ref a_t), (1, .int p1)] := hl
  have hinX7 : ∀ w ∈ wsX70, w ∈ wsX7_readName := by decide +kernel
  have fl_13 := hts (.fieldLink RX7 13 "PointingNotesModel" "readPage" "[I") (by decide +kernel)
  have kl_107 := hts (.constantLong RX7 107 (65)) (by decide +kernel)
  have kl_109 := hts (.constantLong RX7 109 (70)) (by decide +kernel)
  rw [f_X7_readName] at hf
  refine lv_aload_n hx hb dX7_readName_0 rfl (lv_at hl 0 rfl) ?_
  refine lv_bipush (v := (65)) hx hb dX7_readName_1 (by decide) ?_
  refine lv_iconst (v := (0)) hx hb dX7_readName_3 (by decide) ?_
  refine lv_iconst (v := (5)) hx hb dX7_readName_4 (by decide) ?_
  obtain ⟨ru1, v_t_place_u1, hu1, hf⟩ := pn_bd2_at hf
  refine pn_calli [0, 2] (va_runV (As := [.int (65 : Int32), .int (0 : Int32), .int (5 : Int32)]) (rest := []) ⟨hx, hb, hml, hown, hts⟩ (c_X7_take l D cI cJ cZ a_t a_t_text a_t_readPage a_t_page a_t_trial a_t_work a_t_book a_t_kept a_t_isKept a_t_seenWhat a_t_seenV a_t_seenIs a_t_label a_t_finds a_t_reason a_t_caseFirst a_t_brief a_t_printed a_t_renamed a_t_worth H.size v_t_thrown v_t_doings v_t_seen v_t_seed v_t_cases v_t_printedSize v_t_lastReason v_t_textSize v_t_place r_t_text (65 : Int32) (0 : Int32) (5 : Int32) ru1 v_t_place_u1 hu1) (cwV 3 hts gX7_readName_X7_take rfl rfl rfl hdX7_take ⟨Nat.le_of_ble_eq_true rfl, Nat.le_of_ble_eq_true rfl⟩) (pn_preV [0, 2] hP (hD.addr rfl) hK rfl rfl (q0 := 0) (ci := 6) rfl rfl) rfl rfl hl.1 rfl (lv_room (Nat.le_of_ble_eq_true rfl)) dX7_readName_5 ⟨Nat.zero_le _, Nat.zero_le _⟩) hP (hD.addr rfl) hS hA rfl rfl rfl (fun H locs (hP : va_P D vwCl [(a_t, .inr (6, [.int v_t_thrown, .ref a_t_text, .int v_t_textSize, .int v_t_place_u1, .ref a_t_readPage, .ref a_t_page, .ref a_t_trial, .ref a_t_work, .ref a_t_book, .int v_t_doings, .ref a_t_kept, .ref a_t_isKept, .int v_t_seen, .ref a_t_seenWhat, .ref a_t_seenV, .ref a_t_seenIs, .long v_t_seed, .ref a_t_label, .ref a_t_finds, .ref a_t_reason, .ref a_t_caseFirst, .int v_t_cases, .ref a_t_brief, .ref a_t_printed, .int v_t_printedSize, .ref a_t_renamed, .ref a_t_worth, .int v_t_lastReason])), (a_t_readPage, .inl (cI, 265, .inl r_t_readPage)), (a_t_text, .inl (cI, 120, .inl r_t_text))] H) _ hS => ?_)
  refine lv_istore_n (lv' := [(2, .int ru1), (0, .ref a_t), (1, .int p1)]) hx hb dX7_readName_8 rfl hl (by decide) rfl (fun ls hl => ?_)
  refine lv_iload_n hx hb dX7_readName_9 rfl (lv_at hl 0 rfl) ?_
  refine lv_bipush (v := (-9)) hx hb dX7_readName_10 (by decide) ?_
  refine lv_icmp_ne (tgt := 17) hx hb dX7_readName_12 (by decide) (fun c2 => ?_) (fun c2 => ?_)
  · have hf := pn_ifp c2 hf
    refine lv_aload_n hx hb dX7_readName_17 rfl (lv_at hl 1 rfl) ?_
    obtain ⟨ru3, hu3, hf⟩ := pn_bd1_at hf
    refine pn_calli [0, 2] (va_runV (As := []) (rest := []) ⟨hx, hb, hml, hown, hts⟩ (c_X7_next l D cI cJ cZ a_t a_t_text a_t_readPage a_t_page a_t_trial a_t_work a_t_book a_t_kept a_t_isKept a_t_seenWhat a_t_seenV a_t_seenIs a_t_label a_t_finds a_t_reason a_t_caseFirst a_t_brief a_t_printed a_t_renamed a_t_worth H.size v_t_thrown v_t_doings v_t_seen v_t_seed v_t_cases v_t_printedSize v_t_lastReason v_t_textSize v_t_place_u1 r_t_text ru3 hu3) (cwV 0 hts gX7_readName_X7_next rfl rfl rfl hdX7_next ⟨Nat.le_of_ble_eq_true rfl, Nat.le_of_ble_eq_true rfl⟩) (pn_preV [0, 2] hP (hD.addr rfl) hK rfl rfl (q0 := 0) (ci := 6) rfl rfl) rfl rfl hl.1 rfl (lv_room (Nat.le_of_ble_eq_true rfl)) dX7_readName_18 ⟨Nat.zero_le _, Nat.zero_le _⟩) hP (hD.addr rfl) hS hA rfl rfl rfl (fun H locs (hP : va_P D vwCl [(a_t, .inr (6, [.int v_t_thrown, .ref a_t_text, .int v_t_textSize, .int v_t_place_u1, .ref a_t_readPage, .ref a_t_page, .ref a_t_trial, .ref a_t_work, .ref a_t_book, .int v_t_doings, .ref a_t_kept, .ref a_t_isKept, .int v_t_seen, .ref a_t_seenWhat, .ref a_t_seenV, .ref a_t_seenIs, .long v_t_seed, .ref a_t_label, .ref a_t_finds, .ref a_t_reason, .ref a_t_caseFirst, .int v_t_cases, .ref a_t_brief, .ref a_t_printed, .int v_t_printedSize, .ref a_t_renamed, .ref a_t_worth, .int v_t_lastReason])), (a_t_readPage, .inl (cI, 265, .inl r_t_readPage)), (a_t_text, .inl (cI, 120, .inl r_t_text))] H) _ hS => ?_)
    refine lv_i2l hx hb dX7_readName_21 rfl ?_
    refine lv_ldc2 hx hb hown kl_107 dX7_readName_22 ?_
    refine lv_ldc2 hx hb hown kl_109 dX7_readName_25 ?_
    obtain ⟨ru4, hu4, hf⟩ := pn_bd1_at hf
    refine pn_calli [] (va_runS (As := [.long ru3.toInt64, .long (65 : Int64), .long (70 : Int64)]) (rest := []) ⟨hx, hb, hml, hown, hts⟩ (c_X7_in l D cI cJ cZ H.size ru3.toInt64 (65 : Int64) (70 : Int64) ru4 hu4) (va_cwS 3 hts gX7_readName_X7_in rfl rfl rfl hdX7_in ⟨Nat.le_of_ble_eq_true rfl, Nat.le_of_ble_eq_true rfl⟩) (pn_preS [] hP (hD.addr rfl) hK rfl rfl) rfl rfl hl.1 rfl (lv_room (Nat.le_of_ble_eq_true rfl)) dX7_readName_28 ⟨Nat.zero_le _, Nat.zero_le _⟩) hP (hD.addr rfl) hS hA rfl rfl rfl (fun H locs (hP : va_P D vwCl [(a_t, .inr (6, [.int v_t_thrown, .ref a_t_text, .int v_t_textSize, .int v_t_place_u1, .ref a_t_readPage, .ref a_t_page, .ref a_t_trial, .ref a_t_work, .ref a_t_book, .int v_t_doings, .ref a_t_kept, .ref a_t_isKept, .int v_t_seen, .ref a_t_seenWhat, .ref a_t_seenV, .ref a_t_seenIs, .long v_t_seed, .ref a_t_label, .ref a_t_finds, .ref a_t_reason, .ref a_t_caseFirst, .int v_t_cases, .ref a_t_brief, .ref a_t_printed, .int v_t_printedSize, .ref a_t_renamed, .ref a_t_worth, .int v_t_lastReason])), (a_t_readPage, .inl (cI, 265, .inl r_t_readPage)), (a_t_text, .inl (cI, 120, .inl r_t_text))] H) _ hS => ?_)
    refine lv_if_eq (tgt := 69) hx hb dX7_readName_31 (by decide) (fun c5 => ?_) (fun c5 => ?_)
    · have hf := pn_ifp c5 hf
      refine lv_aload_n hx hb dX7_readName_69 rfl (lv_at hl 1 rfl) ?_
      refine va_get (D := D) (ci := 6) (v := .ref a_t_readPage) (C := RX7) (T := TX7) (N := 28) hx hb hts hinX7 hown hK.1 hP 0 rfl rfl 4 (by decide) fl_13 (fun _ h9 => h9) rfl dX7_readName_70 ?_
      refine lv_iload_n hx hb dX7_readName_73 rfl (lv_at hl 2 rfl) ?_
      refine lv_iconst (v := (0)) hx hb dX7_readName_74 (by decide) ?_
      refine lv_iadd hx hb dX7_readName_75 ?_
      refine lv_iconst (v := (1)) hx hb dX7_readName_76 (by decide) ?_
      obtain ⟨hi7, g6, eg6, hf⟩ := pn_wrI_at hf
      refine pn_stI hx hb hK.1 hP (hD.addr rfl) hS 1 0 rfl rfl hi7 eg6 dX7_readName_77 (fun H locs (hP : va_P D vwCl [(a_t, .inr (6, [.int v_t_thrown, .ref a_t_text, .int v_t_textSize, .int v_t_place_u1, .ref a_t_readPage, .ref a_t_page, .ref a_t_trial, .ref a_t_work, .ref a_t_book, .int v_t_doings, .ref a_t_kept, .ref a_t_isKept, .int v_t_seen, .ref a_t_seenWhat, .ref a_t_seenV, .ref a_t_seenIs, .long v_t_seed, .ref a_t_label, .ref a_t_finds, .ref a_t_reason, .ref a_t_caseFirst, .int v_t_cases, .ref a_t_brief, .ref a_t_printed, .int v_t_printedSize, .ref a_t_renamed, .ref a_t_worth, .int v_t_lastReason])), (a_t_readPage, .inl (cI, 265, .inl g6)), (a_t_text, .inl (cI, 120, .inl r_t_text))] H) _ hS => ?_)
      refine lv_aload_n hx hb dX7_readName_78 rfl (lv_at hl 1 rfl) ?_
      refine va_get (D := D) (ci := 6) (v := .ref a_t_readPage) (C := RX7) (T := TX7) (N := 28) hx hb hts hinX7 hown hK.1 hP 0 rfl rfl 4 (by decide) fl_13 (fun _ h9 => h9) rfl dX7_readName_79 ?_
      refine lv_iload_n hx hb dX7_readName_82 rfl (lv_at hl 2 rfl) ?_
      refine lv_iconst (v := (5)) hx hb dX7_readName_83 (by decide) ?_
      refine lv_iadd hx hb dX7_readName_84 ?_
      refine lv_iload_n hx hb dX7_readName_85 rfl (lv_at hl 0 rfl) ?_
      obtain ⟨hi9, g8, eg8, hf⟩ := pn_wrI_at hf
      refine pn_stI hx hb hK.1 hP (hD.addr rfl) hS 1 0 rfl rfl hi9 eg8 dX7_readName_86 (fun H locs (hP : va_P D vwCl [(a_t, .inr (6, [.int v_t_thrown, .ref a_t_text, .int v_t_textSize, .int v_t_place_u1, .ref a_t_readPage, .ref a_t_page, .ref a_t_trial, .ref a_t_work, .ref a_t_book, .int v_t_doings, .ref a_t_kept, .ref a_t_isKept, .int v_t_seen, .ref a_t_seenWhat, .ref a_t_seenV, .ref a_t_seenIs, .long v_t_seed, .ref a_t_label, .ref a_t_finds, .ref a_t_reason, .ref a_t_caseFirst, .int v_t_cases, .ref a_t_brief, .ref a_t_printed, .int v_t_printedSize, .ref a_t_renamed, .ref a_t_worth, .int v_t_lastReason])), (a_t_readPage, .inl (cI, 265, .inl g8)), (a_t_text, .inl (cI, 120, .inl r_t_text))] H) _ hS => ?_)
      refine lv_iconst (v := (1)) hx hb dX7_readName_87 (by decide) ?_
      cases hf
      rw [hQ]
      exact pn_retz hx hb hr hlocks hP hS rfl rfl dX7_readName_88
    · have hf := pn_ifn c5 hf
      refine lv_aload_n hx hb dX7_readName_34 rfl (lv_at hl 1 rfl) ?_
      obtain ⟨ru10, hu10, hf⟩ := pn_bd1_at hf
      refine pn_calli [0, 2] (va_runV (As := []) (rest := []) ⟨hx, hb, hml, hown, hts⟩ (c_X7_next l D cI cJ cZ a_t a_t_text a_t_readPage a_t_page a_t_trial a_t_work a_t_book a_t_kept a_t_isKept a_t_seenWhat a_t_seenV a_t_seenIs a_t_label a_t_finds a_t_reason a_t_caseFirst a_t_brief a_t_printed a_t_renamed a_t_worth H.size v_t_thrown v_t_doings v_t_seen v_t_seed v_t_cases v_t_printedSize v_t_lastReason v_t_textSize v_t_place_u1 r_t_text ru10 hu10) (cwV 0 hts gX7_readName_X7_next rfl rfl rfl hdX7_next ⟨Nat.le_of_ble_eq_true rfl, Nat.le_of_ble_eq_true rfl⟩) (pn_preV [0, 2] hP (hD.addr rfl) hK rfl rfl (q0 := 0) (ci := 6) rfl rfl) rfl rfl hl.1 rfl (lv_room (Nat.le_of_ble_eq_true rfl)) dX7_readName_35 ⟨Nat.zero_le _, Nat.zero_le _⟩) hP (hD.addr rfl) hS hA rfl rfl rfl (fun H locs (hP : va_P D vwCl [(a_t, .inr (6, [.int v_t_thrown, .ref a_t_text, .int v_t_textSize, .int v_t_place_u1, .ref a_t_readPage, .ref a_t_page, .ref a_t_trial, .ref a_t_work, .ref a_t_book, .int v_t_doings, .ref a_t_kept, .ref a_t_isKept, .int v_t_seen, .ref a_t_seenWhat, .ref a_t_seenV, .ref a_t_seenIs, .long v_t_seed, .ref a_t_label, .ref a_t_finds, .ref a_t_reason, .ref a_t_caseFirst, .int v_t_cases, .ref a_t_brief, .ref a_t_printed, .int v_t_printedSize, .ref a_t_renamed, .ref a_t_worth, .int v_t_lastReason])), (a_t_readPage, .inl (cI, 265, .inl r_t_readPage)), (a_t_text, .inl (cI, 120, .inl r_t_text))] H) _ hS => ?_)
      refine lv_bipush (v := (65)) hx hb dX7_readName_38 (by decide) ?_
      refine lv_iload_n hx hb dX7_readName_40 rfl (lv_at hl 0 rfl) ?_
      refine lv_iadd hx hb dX7_readName_41 ?_
      refine lv_icmp_eq (tgt := 69) hx hb dX7_readName_42 (by decide) (fun c11 => ?_) (fun c11 => ?_)
      · have hf := pn_ifp c11 hf
        refine lv_aload_n hx hb dX7_readName_69 rfl (lv_at hl 1 rfl) ?_
        refine va_get (D := D) (ci := 6) (v := .ref a_t_readPage) (C := RX7) (T := TX7) (N := 28) hx hb hts hinX7 hown hK.1 hP 0 rfl rfl 4 (by decide) fl_13 (fun _ h9 => h9) rfl dX7_readName_70 ?_
        refine lv_iload_n hx hb dX7_readName_73 rfl (lv_at hl 2 rfl) ?_
        refine lv_iconst (v := (0)) hx hb dX7_readName_74 (by decide) ?_
        refine lv_iadd hx hb dX7_readName_75 ?_
        refine lv_iconst (v := (1)) hx hb dX7_readName_76 (by decide) ?_
        obtain ⟨hi13, g12, eg12, hf⟩ := pn_wrI_at hf
        refine pn_stI hx hb hK.1 hP (hD.addr rfl) hS 1 0 rfl rfl hi13 eg12 dX7_readName_77 (fun H locs (hP : va_P D vwCl [(a_t, .inr (6, [.int v_t_thrown, .ref a_t_text, .int v_t_textSize, .int v_t_place_u1, .ref a_t_readPage, .ref a_t_page, .ref a_t_trial, .ref a_t_work, .ref a_t_book, .int v_t_doings, .ref a_t_kept, .ref a_t_isKept, .int v_t_seen, .ref a_t_seenWhat, .ref a_t_seenV, .ref a_t_seenIs, .long v_t_seed, .ref a_t_label, .ref a_t_finds, .ref a_t_reason, .ref a_t_caseFirst, .int v_t_cases, .ref a_t_brief, .ref a_t_printed, .int v_t_printedSize, .ref a_t_renamed, .ref a_t_worth, .int v_t_lastReason])), (a_t_readPage, .inl (cI, 265, .inl g12)), (a_t_text, .inl (cI, 120, .inl r_t_text))] H) _ hS => ?_)
        refine lv_aload_n hx hb dX7_readName_78 rfl (lv_at hl 1 rfl) ?_
        refine va_get (D := D) (ci := 6) (v := .ref a_t_readPage) (C := RX7) (T := TX7) (N := 28) hx hb hts hinX7 hown hK.1 hP 0 rfl rfl 4 (by decide) fl_13 (fun _ h9 => h9) rfl dX7_readName_79 ?_
        refine lv_iload_n hx hb dX7_readName_82 rfl (lv_at hl 2 rfl) ?_
        refine lv_iconst (v := (5)) hx hb dX7_readName_83 (by decide) ?_
        refine lv_iadd hx hb dX7_readName_84 ?_
        refine lv_iload_n hx hb dX7_readName_85 rfl (lv_at hl 0 rfl) ?_
        obtain ⟨hi15, g14, eg14, hf⟩ := pn_wrI_at hf
        refine pn_stI hx hb hK.1 hP (hD.addr rfl) hS 1 0 rfl rfl hi15 eg14 dX7_readName_86 (fun H locs (hP : va_P D vwCl [(a_t, .inr (6, [.int v_t_thrown, .ref a_t_text, .int v_t_textSize, .int v_t_place_u1, .ref a_t_readPage, .ref a_t_page, .ref a_t_trial, .ref a_t_work, .ref a_t_book, .int v_t_doings, .ref a_t_kept, .ref a_t_isKept, .int v_t_seen, .ref a_t_seenWhat, .ref a_t_seenV, .ref a_t_seenIs, .long v_t_seed, .ref a_t_label, .ref a_t_finds, .ref a_t_reason, .ref a_t_caseFirst, .int v_t_cases, .ref a_t_brief, .ref a_t_printed, .int v_t_printedSize, .ref a_t_renamed, .ref a_t_worth, .int v_t_lastReason])), (a_t_readPage, .inl (cI, 265, .inl g14)), (a_t_text, .inl (cI, 120, .inl r_t_text))] H) _ hS => ?_)
        refine lv_iconst (v := (1)) hx hb dX7_readName_87 (by decide) ?_
        cases hf
        rw [hQ]
        exact pn_retz hx hb hr hlocks hP hS rfl rfl dX7_readName_88
      · have hf := pn_ifn c11 hf
        refine lv_aload_n hx hb dX7_readName_45 rfl (lv_at hl 1 rfl) ?_
        refine va_get (D := D) (ci := 6) (v := .ref a_t_readPage) (C := RX7) (T := TX7) (N := 28) hx hb hts hinX7 hown hK.1 hP 0 rfl rfl 4 (by decide) fl_13 (fun _ h9 => h9) rfl dX7_readName_46 ?_
        refine lv_iload_n hx hb dX7_readName_49 rfl (lv_at hl 2 rfl) ?_
        refine lv_iconst (v := (0)) hx hb dX7_readName_50 (by decide) ?_
        refine lv_iadd hx hb dX7_readName_51 ?_
        refine lv_iconst (v := (0)) hx hb dX7_readName_52 (by decide) ?_
        obtain ⟨hi17, g16, eg16, hf⟩ := pn_wrI_at hf
        refine pn_stI hx hb hK.1 hP (hD.addr rfl) hS 1 0 rfl rfl hi17 eg16 dX7_readName_53 (fun H locs (hP : va_P D vwCl [(a_t, .inr (6, [.int v_t_thrown, .ref a_t_text, .int v_t_textSize, .int v_t_place_u1, .ref a_t_readPage, .ref a_t_page, .ref a_t_trial, .ref a_t_work, .ref a_t_book, .int v_t_doings, .ref a_t_kept, .ref a_t_isKept, .int v_t_seen, .ref a_t_seenWhat, .ref a_t_seenV, .ref a_t_seenIs, .long v_t_seed, .ref a_t_label, .ref a_t_finds, .ref a_t_reason, .ref a_t_caseFirst, .int v_t_cases, .ref a_t_brief, .ref a_t_printed, .int v_t_printedSize, .ref a_t_renamed, .ref a_t_worth, .int v_t_lastReason])), (a_t_readPage, .inl (cI, 265, .inl g16)), (a_t_text, .inl (cI, 120, .inl r_t_text))] H) _ hS => ?_)
        refine lv_aload_n hx hb dX7_readName_54 rfl (lv_at hl 1 rfl) ?_
        refine va_get (D := D) (ci := 6) (v := .ref a_t_readPage) (C := RX7) (T := TX7) (N := 28) hx hb hts hinX7 hown hK.1 hP 0 rfl rfl 4 (by decide) fl_13 (fun _ h9 => h9) rfl dX7_readName_55 ?_
        refine lv_iload_n hx hb dX7_readName_58 rfl (lv_at hl 2 rfl) ?_
        refine lv_iconst (v := (1)) hx hb dX7_readName_59 (by decide) ?_
        refine lv_iadd hx hb dX7_readName_60 ?_
        refine lv_iload_n hx hb dX7_readName_61 rfl (lv_at hl 0 rfl) ?_
        obtain ⟨hi19, g18, eg18, hf⟩ := pn_wrI_at hf
        refine pn_stI hx hb hK.1 hP (hD.addr rfl) hS 1 0 rfl rfl hi19 eg18 dX7_readName_62 (fun H locs (hP : va_P D vwCl [(a_t, .inr (6, [.int v_t_thrown, .ref a_t_text, .int v_t_textSize, .int v_t_place_u1, .ref a_t_readPage, .ref a_t_page, .ref a_t_trial, .ref a_t_work, .ref a_t_book, .int v_t_doings, .ref a_t_kept, .ref a_t_isKept, .int v_t_seen, .ref a_t_seenWhat, .ref a_t_seenV, .ref a_t_seenIs, .long v_t_seed, .ref a_t_label, .ref a_t_finds, .ref a_t_reason, .ref a_t_caseFirst, .int v_t_cases, .ref a_t_brief, .ref a_t_printed, .int v_t_printedSize, .ref a_t_renamed, .ref a_t_worth, .int v_t_lastReason])), (a_t_readPage, .inl (cI, 265, .inl g18)), (a_t_text, .inl (cI, 120, .inl r_t_text))] H) _ hS => ?_)
        refine lv_aload_n hx hb dX7_readName_63 rfl (lv_at hl 1 rfl) ?_
        refine lv_iload_n hx hb dX7_readName_64 rfl (lv_at hl 2 rfl) ?_
        obtain ⟨ru20, v_t_place_u20, r_t_readPage_u20, hu20, hf⟩ := pn_bd3_at hf
        refine pn_calli [0, 1, 2] (va_runV (As := [.int p1]) (rest := []) ⟨hx, hb, hml, hown, hts⟩ (c_X7_readSpelled l D cI cJ cZ a_t a_t_text a_t_readPage a_t_page a_t_trial a_t_work a_t_book a_t_kept a_t_isKept a_t_seenWhat a_t_seenV a_t_seenIs a_t_label a_t_finds a_t_reason a_t_caseFirst a_t_brief a_t_printed a_t_renamed a_t_worth H.size v_t_thrown v_t_doings v_t_seen v_t_seed v_t_cases v_t_printedSize v_t_lastReason v_t_textSize v_t_place_u1 g18 r_t_text p1 ru20 v_t_place_u20 r_t_readPage_u20 hu20) (cwV 1 hts gX7_readName_X7_readSpelled rfl rfl rfl hdX7_readSpelled ⟨Nat.le_of_ble_eq_true rfl, Nat.le_of_ble_eq_true rfl⟩) (pn_preV [0, 1, 2] hP (hD.addr rfl) hK rfl rfl (q0 := 0) (ci := 6) rfl rfl) rfl rfl hl.1 rfl (lv_room (Nat.le_of_ble_eq_true rfl)) dX7_readName_65 ⟨Nat.zero_le _, Nat.zero_le _⟩) hP (hD.addr rfl) hS hA rfl rfl rfl (fun H locs (hP : va_P D vwCl [(a_t, .inr (6, [.int v_t_thrown, .ref a_t_text, .int v_t_textSize, .int v_t_place_u20, .ref a_t_readPage, .ref a_t_page, .ref a_t_trial, .ref a_t_work, .ref a_t_book, .int v_t_doings, .ref a_t_kept, .ref a_t_isKept, .int v_t_seen, .ref a_t_seenWhat, .ref a_t_seenV, .ref a_t_seenIs, .long v_t_seed, .ref a_t_label, .ref a_t_finds, .ref a_t_reason, .ref a_t_caseFirst, .int v_t_cases, .ref a_t_brief, .ref a_t_printed, .int v_t_printedSize, .ref a_t_renamed, .ref a_t_worth, .int v_t_lastReason])), (a_t_readPage, .inl (cI, 265, .inl r_t_readPage_u20)), (a_t_text, .inl (cI, 120, .inl r_t_text))] H) _ hS => ?_)
        obtain ⟨hn21, hf⟩ := pn_bz_at hf
        cases hf
        rw [hQ]
        exact pn_retz hx hb hr hlocks hP hS rfl hn21 dX7_readName_68
  · have hf := pn_ifq c2 hf
    refine lv_iconst (v := (0)) hx hb dX7_readName_15 (by decide) ?_
    cases hf
    rw [hQ]
    exact pn_retz hx hb hr hlocks hP hS rfl rfl dX7_readName_16
def lp_X7_readReference_2 (p1 : Int32) : Nat → Int32 → (Nat → Int32) → Option ((Nat → Int32))
  | 0, _, _ => none
  | n + 1, x2, r_t_readPage =>
    if (8 : Int32) ≤ x2 then
  some r_t_readPage
  else
  pn_wrI 265 r_t_readPage (p1 + x2) (0 : Int32) fun g2 =>
  pn_nm (x2 + (1 : Int32)) fun z4 =>
  lp_X7_readReference_2 p1 n z4 g2
def j_X7_readReference_90 (v_t_textSize : Int32) (r_t_text : Nat → Int32) (p1 : Int32) (x2 : Int32) (v_t_place : Int32) (r_t_readPage : Nat → Int32) : Option (Int32 × Int32 × (Nat → Int32)) :=
  if x2 = 0 then
  pn_bz x2 <|
  some (x2, v_t_place, r_t_readPage)
  else
  pn_bd1 (f_X7_next v_t_textSize v_t_place r_t_text) fun ru7 =>
  if ¬ ru7 = (64 : Int32) then
  pn_bz x2 <|
  some (x2, v_t_place, r_t_readPage)
  else
  pn_nm (v_t_place + (1 : Int32)) fun z10 =>
  pn_bd2 (f_X7_takePage v_t_textSize z10 r_t_text) fun ru11 v_t_place_u11 =>
  pn_wrI 265 r_t_readPage (p1 + (7 : Int32)) ru11 fun g12 =>
  if ru11 = (-9 : Int32) then
  some ((0 : Int32), v_t_place_u11, g12)
  else
  some ((1 : Int32), v_t_place_u11, g12)
def f_X7_readReference (N : Nat) (v_t_textSize : Int32) (v_t_place : Int32) (r_t_readPage : Nat → Int32) (r_t_text : Nat → Int32) (p1 : Int32) : Option (Int32 × Int32 × (Nat → Int32)) :=
  pn_bd1 (lp_X7_readReference_2 p1 N (0 : Int32) r_t_readPage) (fun X2 => (pn_u1 fun r_t_readPage_w15 => pn_bd1 (f_X7_next v_t_textSize v_t_place r_t_text) fun ru16 =>
  if ¬ ru16 = (105 : Int32) then
  pn_bd1 (f_X7_next v_t_textSize v_t_place r_t_text) fun ru18 =>
  if ¬ ru18 = (97 : Int32) then
  pn_bd3 (f_X7_readName v_t_textSize v_t_place r_t_readPage_w15 r_t_text p1) fun ru20 v_t_place_u20 r_t_readPage_u20 =>
  j_X7_readReference_90 v_t_textSize r_t_text p1 ru20 v_t_place_u20 r_t_readPage_u20
  else
  pn_nm (v_t_place + (1 : Int32)) fun z21 =>
  pn_bd3 (f_X7_readAbove v_t_textSize z21 r_t_readPage_w15 r_t_text p1) fun ru22 v_t_place_u22 r_t_readPage_u22 =>
  j_X7_readReference_90 v_t_textSize r_t_text p1 ru22 v_t_place_u22 r_t_readPage_u22
  else
  pn_nm (v_t_place + (1 : Int32)) fun z23 =>
  pn_wrI 265 r_t_readPage_w15 (p1 + (0 : Int32)) (2 : Int32) fun g24 =>
  j_X7_readReference_90 v_t_textSize r_t_text p1 (1 : Int32) z23 g24) X2)
set_option maxHeartbeats 4000000 in
set_option maxRecDepth 100000 in
theorem c_X7_readReference (l : Launch) (D : va_G) (cI cJ cZ : ClassId) (a_t a_t_text a_t_readPage a_t_page a_t_trial a_t_work a_t_book a_t_kept a_t_isKept a_t_seenWhat a_t_seenV a_t_seenIs a_t_label a_t_finds a_t_reason a_t_caseFirst a_t_brief a_t_printed a_t_renamed a_t_worth : Nat) (sz : Nat) (v_t_thrown : Int32) (v_t_doings : Int32) (v_t_seen : Int32) (v_t_seed : Int64) (v_t_cases : Int32) (v_t_printedSize : Int32) (v_t_lastReason : Int32) (N : Nat) (v_t_textSize : Int32) (v_t_place : Int32) (r_t_readPage : Nat → Int32) (r_t_text : Nat → Int32) (p1 : Int32) (rR : Int32) (o_t_place : Int32) (o_t_readPage : Nat → Int32) (hf : f_X7_readReference N v_t_textSize v_t_place r_t_readPage r_t_text p1 = some (rR, o_t_place, o_t_readPage)) : Met l yX7_readReference wsX7_readReference { frames := 6, cells := 0, slots := 0, locals := 141 } (pn_Pc D cI cJ cZ [.ref a_t, .int p1] [(a_t, .inr (6, [.int v_t_thrown, .ref a_t_text, .int v_t_textSize, .int v_t_place, .ref a_t_readPage, .ref a_t_page, .ref a_t_trial, .ref a_t_work, .ref a_t_book, .int v_t_doings, .ref a_t_kept, .ref a_t_isKept, .int v_t_seen, .ref a_t_seenWhat, .ref a_t_seenV, .ref a_t_seenIs, .long v_t_seed, .ref a_t_label, .ref a_t_finds, .ref a_t_reason, .ref a_t_caseFirst, .int v_t_cases, .ref a_t_brief, .ref a_t_printed, .int v_t_printedSize, .ref a_t_renamed, .ref a_t_worth, .int v_t_lastReason])), (a_t_readPage, .inl (cI, 265, .inl r_t_readPage)), (a_t_text, .inl (cI, 120, .inl r_t_text))] sz) (pn_Qi D rR [(a_t, .inr (6, [.int v_t_thrown, .ref a_t_text, .int v_t_textSize, .int o_t_place, .ref a_t_readPage, .ref a_t_page, .ref a_t_trial, .ref a_t_work, .ref a_t_book, .int v_t_doings, .ref a_t_kept, .ref a_t_isKept, .int v_t_seen, .ref a_t_seenWhat, .ref a_t_seenV, .ref a_t_seenIs, .long v_t_seed, .ref a_t_label, .ref a_t_finds, .ref a_t_reason, .ref a_t_caseFirst, .int v_t_cases, .ref a_t_brief, .ref a_t_printed, .int v_t_printedSize, .ref a_t_renamed, .ref a_t_worth, .int v_t_lastReason])), (a_t_readPage, .inl (cI, 265, .inl o_t_readPage)), (a_t_text, .inl (cI, 120, .inl r_t_text))] (va_A [(a_t, .inr (6, [.int v_t_thrown, .ref a_t_text, .int v_t_textSize, .int v_t_place, .ref a_t_readPage, .ref a_t_page, .ref a_t_trial, .ref a_t_work, .ref a_t_book, .int v_t_doings, .ref a_t_kept, .ref a_t_isKept, .int v_t_seen, .ref a_t_seenWhat, .ref a_t_seenV, .ref a_t_seenIs, .long v_t_seed, .ref a_t_label, .ref a_t_finds, .ref a_t_reason, .ref a_t_caseFirst, .int v_t_cases, .ref a_t_brief, .ref a_t_printed, .int v_t_printedSize, .ref a_t_renamed, .ref a_t_worth, .int v_t_lastReason])), (a_t_readPage, .inl (cI, 265, .inl r_t_readPage)), (a_t_text, .inl (cI, 120, .inl r_t_text))] sz)) 0 0 (va_A [(a_t, .inr (6, [.int v_t_thrown, .ref a_t_text, .int v_t_textSize, .int v_t_place, .ref a_t_readPage, .ref a_t_page, .ref a_t_trial, .ref a_t_work, .ref a_t_book, .int v_t_doings, .ref a_t_kept, .ref a_t_isKept, .int v_t_seen, .ref a_t_seenWhat, .ref a_t_seenV, .ref a_t_seenIs, .long v_t_seed, .ref a_t_label, .ref a_t_finds, .ref a_t_reason, .ref a_t_caseFirst, .int v_t_cases, .ref a_t_brief, .ref a_t_printed, .int v_t_printedSize, .ref a_t_renamed, .ref a_t_worth, .int v_t_lastReason])), (a_t_readPage, .inl (cI, 265, .inl r_t_readPage)), (a_t_text, .inl (cI, 120, .inl r_t_text))] sz) := by
  refine pn_entry (cc := cX7_readReference) (maxL := 4) (ret := (some .boolean)) (Qf := pn_Qi D rR [(a_t, .inr (6, [.int v_t_thrown, .ref a_t_text, .int v_t_textSize, .int o_t_place, .ref a_t_readPage, .ref a_t_page, .ref a_t_trial, .ref a_t_work, .ref a_t_book, .int v_t_doings, .ref a_t_kept, .ref a_t_isKept, .int v_t_seen, .ref a_t_seenWhat, .ref a_t_seenV, .ref a_t_seenIs, .long v_t_seed, .ref a_t_label, .ref a_t_finds, .ref a_t_reason, .ref a_t_caseFirst, .int v_t_cases, .ref a_t_brief, .ref a_t_printed, .int v_t_printedSize, .ref a_t_renamed, .ref a_t_worth, .int v_t_lastReason])), (a_t_readPage, .inl (cI, 265, .inl o_t_readPage)), (a_t_text, .inl (cI, 120, .inl r_t_text))]) (by decide) rfl (Nat.le_of_ble_eq_true rfl) ?_
  intro p e s m args below meth c A ls H locs Qm hQ hx hb hr hlocks hml hown hts hK hP hD hA hS hl
  have hl : lv_has ls 4 [(0, .ref a_t), (1, .int p1)] := hl
  have hinX7 : ∀ w ∈ wsX70, w ∈ wsX7_readReference := by decide +kernel
  have fl_13 := hts (.fieldLink RX7 13 "PointingNotesModel" "readPage" "[I") (by decide +kernel)
  have fl_89 := hts (.fieldLink RX7 89 "PointingNotesModel" "place" "I") (by decide +kernel)
  rw [f_X7_readReference] at hf
  have lp2 : ∀ (n : Nat) (x2 : Int32) (v_t_place : Int32) (r_t_readPage : Nat → Int32) (X : (Nat → Int32)) (H : Heap) (locs : List Loc) (ls : Array Slot), lp_X7_readReference_2 p1 n x2 r_t_readPage = some X → va_P D vwCl [(a_t, .inr (6, [.int v_t_thrown, .ref a_t_text, .int v_t_textSize, .int v_t_place, .ref a_t_readPage, .ref a_t_page, .ref a_t_trial, .ref a_t_work, .ref a_t_book, .int v_t_doings, .ref a_t_kept, .ref a_t_isKept, .int v_t_seen, .ref a_t_seenWhat, .ref a_t_seenV, .ref a_t_seenIs, .long v_t_seed, .ref a_t_label, .ref a_t_finds, .ref a_t_reason, .ref a_t_caseFirst, .int v_t_cases, .ref a_t_brief, .ref a_t_printed, .int v_t_printedSize, .ref a_t_renamed, .ref a_t_worth, .int v_t_lastReason])), (a_t_readPage, .inl (cI, 265, .inl r_t_readPage)), (a_t_text, .inl (cI, 120, .inl r_t_text))] H → va_S A s.heap H locs → lv_has ls 4 [(0, .ref a_t), (1, .int p1), (2, .int x2)] → (∀  (r_t_readPage' : Nat → Int32) (H : Heap) (locs : List Loc) (ls : Array Slot), X = r_t_readPage' → va_P D vwCl [(a_t, .inr (6, [.int v_t_thrown, .ref a_t_text, .int v_t_textSize, .int v_t_place, .ref a_t_readPage, .ref a_t_page, .ref a_t_trial, .ref a_t_work, .ref a_t_book, .int v_t_doings, .ref a_t_kept, .ref a_t_isKept, .int v_t_seen, .ref a_t_seenWhat, .ref a_t_seenV, .ref a_t_seenIs, .long v_t_seed, .ref a_t_label, .ref a_t_finds, .ref a_t_reason, .ref a_t_caseFirst, .int v_t_cases, .ref a_t_brief, .ref a_t_printed, .int v_t_printedSize, .ref a_t_renamed, .ref a_t_worth, .int v_t_lastReason])), (a_t_readPage, .inl (cI, 265, .inl (r_t_readPage'))), (a_t_text, .inl (cI, 120, .inl r_t_text))] H → va_S A s.heap H locs → lv_has ls 4 [(0, .ref a_t), (1, .int p1)] → W p l e { frames := 6, cells := 0, slots := 0, locals := 141 } s m args below meth c H locs 0 0 Qm (F0 m 23 ls [])) → W p l e { frames := 6, cells := 0, slots := 0, locals := 141 } s m args below meth c H locs 0 0 Qm (F0 m 2 ls []) := by
    intro n
    induction n with
    | zero => intro x2 v_t_place r_t_readPage X H locs ls hf; cases hf
    | succ n ih =>
      intro x2 v_t_place r_t_readPage X H locs ls hf hP hS hl kx23
      rw [lp_X7_readReference_2] at hf
      refine lv_iload_n hx hb dX7_readReference_2 rfl (lv_at hl 2 rfl) ?_
      refine lv_bipush (v := (8)) hx hb dX7_readReference_3 (by decide) ?_
      refine lv_icmp_ge (tgt := 23) hx hb dX7_readReference_5 (by decide) (fun c1 => ?_) (fun c1 => ?_)
      · have hf := pn_ifp c1 hf
        exact kx23 r_t_readPage H locs ls (Option.some.inj hf).symm hP hS (lv_sub hl [0, 1] rfl)
      · have hf := pn_ifn c1 hf
        refine lv_aload_n hx hb dX7_readReference_8 rfl (lv_at hl 0 rfl) ?_
        refine va_get (D := D) (ci := 6) (v := .ref a_t_readPage) (C := RX7) (T := TX7) (N := 28) hx hb hts hinX7 hown hK.1 hP 0 rfl rfl 4 (by decide) fl_13 (fun _ h9 => h9) rfl dX7_readReference_9 ?_
        refine lv_iload_n hx hb dX7_readReference_12 rfl (lv_at hl 1 rfl) ?_
        refine lv_iload_n hx hb dX7_readReference_13 rfl (lv_at hl 2 rfl) ?_
        refine lv_iadd hx hb dX7_readReference_14 ?_
        refine lv_iconst (v := (0)) hx hb dX7_readReference_15 (by decide) ?_
        obtain ⟨hi3, g2, eg2, hf⟩ := pn_wrI_at hf
        refine pn_stI hx hb hK.1 hP (hD.addr rfl) hS 1 0 rfl rfl hi3 eg2 dX7_readReference_16 (fun H locs (hP : va_P D vwCl [(a_t, .inr (6, [.int v_t_thrown, .ref a_t_text, .int v_t_textSize, .int v_t_place, .ref a_t_readPage, .ref a_t_page, .ref a_t_trial, .ref a_t_work, .ref a_t_book, .int v_t_doings, .ref a_t_kept, .ref a_t_isKept, .int v_t_seen, .ref a_t_seenWhat, .ref a_t_seenV, .ref a_t_seenIs, .long v_t_seed, .ref a_t_label, .ref a_t_finds, .ref a_t_reason, .ref a_t_caseFirst, .int v_t_cases, .ref a_t_brief, .ref a_t_printed, .int v_t_printedSize, .ref a_t_renamed, .ref a_t_worth, .int v_t_lastReason])), (a_t_readPage, .inl (cI, 265, .inl g2)), (a_t_text, .inl (cI, 120, .inl r_t_text))] H) _ hS => ?_)
        obtain ⟨z4, ez4⟩ : ∃ y : Int32, y = x2 + (1) := ⟨_, rfl⟩
        have hf := pn_nm_at ez4 hf
        refine lv_iinc (v := z4) (lv' := [(2, .int z4), (0, .ref a_t), (1, .int p1)]) hx hb dX7_readReference_17 hl (k := 2) rfl (by rw [ez4]; rfl) (by decide) rfl (fun ls hl => ?_)
        refine lv_goto (tgt := 2) hx hb dX7_readReference_20 (by decide) ?_
        exact ih z4 v_t_place g2 X H locs ls hf hP hS (lv_sub hl [1, 2, 0] rfl) kx23
  have jn90 : ∀ (x2 : Int32) (v_t_place : Int32) (r_t_readPage : Nat → Int32) (H : Heap) (locs : List Loc) (ls : Array Slot), j_X7_readReference_90 v_t_textSize r_t_text p1 x2 v_t_place r_t_readPage = some (rR, o_t_place, o_t_readPage) → va_P D vwCl [(a_t, .inr (6, [.int v_t_thrown, .ref a_t_text, .int v_t_textSize, .int v_t_place, .ref a_t_readPage, .ref a_t_page, .ref a_t_trial, .ref a_t_work, .ref a_t_book, .int v_t_doings, .ref a_t_kept, .ref a_t_isKept, .int v_t_seen, .ref a_t_seenWhat, .ref a_t_seenV, .ref a_t_seenIs, .long v_t_seed, .ref a_t_label, .ref a_t_finds, .ref a_t_reason, .ref a_t_caseFirst, .int v_t_cases, .ref a_t_brief, .ref a_t_printed, .int v_t_printedSize, .ref a_t_renamed, .ref a_t_worth, .int v_t_lastReason])), (a_t_readPage, .inl (cI, 265, .inl r_t_readPage)), (a_t_text, .inl (cI, 120, .inl r_t_text))] H → va_S A s.heap H locs → lv_has ls 4 [(0, .ref a_t), (1, .int p1), (2, .int x2)] → W p l e { frames := 6, cells := 0, slots := 0, locals := 141 } s m args below meth c H locs 0 0 Qm (F0 m 90 ls []) := by
    intro x2 v_t_place r_t_readPage H locs ls hf hP hS hl
    rw [j_X7_readReference_90] at hf
    refine lv_iload_n hx hb dX7_readReference_90 rfl (lv_at hl 2 rfl) ?_
    refine lv_if_eq (tgt := 140) hx hb dX7_readReference_91 (by decide) (fun c5 => ?_) (fun c5 => ?_)
    · have hf := pn_ifp c5 hf
      refine lv_iload_n hx hb dX7_readReference_140 rfl (lv_at hl 2 rfl) ?_
      obtain ⟨hn6, hf⟩ := pn_bz_at hf
      cases hf
      rw [hQ]
      exact pn_retz hx hb hr hlocks hP hS rfl hn6 dX7_readReference_141
    · have hf := pn_ifn c5 hf
      refine lv_aload_n hx hb dX7_readReference_94 rfl (lv_at hl 0 rfl) ?_
      obtain ⟨ru7, hu7, hf⟩ := pn_bd1_at hf
      refine pn_calli [0, 2] (va_runV (As := []) (rest := []) ⟨hx, hb, hml, hown, hts⟩ (c_X7_next l D cI cJ cZ a_t a_t_text a_t_readPage a_t_page a_t_trial a_t_work a_t_book a_t_kept a_t_isKept a_t_seenWhat a_t_seenV a_t_seenIs a_t_label a_t_finds a_t_reason a_t_caseFirst a_t_brief a_t_printed a_t_renamed a_t_worth H.size v_t_thrown v_t_doings v_t_seen v_t_seed v_t_cases v_t_printedSize v_t_lastReason v_t_textSize v_t_place r_t_text ru7 hu7) (cwV 0 hts gX7_readReference_X7_next rfl rfl rfl hdX7_next ⟨Nat.le_of_ble_eq_true rfl, Nat.le_of_ble_eq_true rfl⟩) (pn_preV [0, 2] hP (hD.addr rfl) hK rfl rfl (q0 := 0) (ci := 6) rfl rfl) rfl rfl hl.1 rfl (lv_room (Nat.le_of_ble_eq_true rfl)) dX7_readReference_95 ⟨Nat.zero_le _, Nat.zero_le _⟩) hP (hD.addr rfl) hS hA rfl rfl rfl (fun H locs (hP : va_P D vwCl [(a_t, .inr (6, [.int v_t_thrown, .ref a_t_text, .int v_t_textSize, .int v_t_place, .ref a_t_readPage, .ref a_t_page, .ref a_t_trial, .ref a_t_work, .ref a_t_book, .int v_t_doings, .ref a_t_kept, .ref a_t_isKept, .int v_t_seen, .ref a_t_seenWhat, .ref a_t_seenV, .ref a_t_seenIs, .long v_t_seed, .ref a_t_label, .ref a_t_finds, .ref a_t_reason, .ref a_t_caseFirst, .int v_t_cases, .ref a_t_brief, .ref a_t_printed, .int v_t_printedSize, .ref a_t_renamed, .ref a_t_worth, .int v_t_lastReason])), (a_t_readPage, .inl (cI, 265, .inl r_t_readPage)), (a_t_text, .inl (cI, 120, .inl r_t_text))] H) _ hS => ?_)
      refine lv_bipush (v := (64)) hx hb dX7_readReference_98 (by decide) ?_
      refine lv_icmp_ne (tgt := 140) hx hb dX7_readReference_100 (by decide) (fun c8 => ?_) (fun c8 => ?_)
      · have hf := pn_ifp c8 hf
        refine lv_iload_n hx hb dX7_readReference_140 rfl (lv_at hl 2 rfl) ?_
        obtain ⟨hn9, hf⟩ := pn_bz_at hf
        cases hf
        rw [hQ]
        exact pn_retz hx hb hr hlocks hP hS rfl hn9 dX7_readReference_141
      · have hf := pn_ifq c8 hf
        refine lv_aload_n hx hb dX7_readReference_103 rfl (lv_at hl 0 rfl) ?_
        refine lv_dup hx hb dX7_readReference_104 rfl ?_
        refine va_get (D := D) (ci := 6) (v := .int v_t_place) (C := RX7) (T := TX7) (N := 28) hx hb hts hinX7 hown hK.1 hP 0 rfl rfl 3 (by decide) fl_89 (fun _ h9 => h9) rfl dX7_readReference_105 ?_
        refine lv_iconst (v := (1)) hx hb dX7_readReference_108 (by decide) ?_
        refine lv_iadd hx hb dX7_readReference_109 ?_
        refine lv_topi (fun z10 ez10 => ?_)
        have hf := pn_nm_at ez10 hf
        refine va_put (D := D) (ci := 6) (v := .int z10) (ty := .int) (C := RX7) (T := TX7) (N := 28) hx hb hts hinX7 tyX7 tyX7_ok nmX7 hown hK.1 hP (hD.addr rfl) hS 0 rfl rfl 3 (by decide) fl_89 (fun _ h9 => h9) rfl (by decide +kernel) rfl rfl (Nat.le_of_ble_eq_true rfl) dX7_readReference_110 (fun H locs (hP : va_P D vwCl [(a_t, .inr (6, [.int v_t_thrown, .ref a_t_text, .int v_t_textSize, .int z10, .ref a_t_readPage, .ref a_t_page, .ref a_t_trial, .ref a_t_work, .ref a_t_book, .int v_t_doings, .ref a_t_kept, .ref a_t_isKept, .int v_t_seen, .ref a_t_seenWhat, .ref a_t_seenV, .ref a_t_seenIs, .long v_t_seed, .ref a_t_label, .ref a_t_finds, .ref a_t_reason, .ref a_t_caseFirst, .int v_t_cases, .ref a_t_brief, .ref a_t_printed, .int v_t_printedSize, .ref a_t_renamed, .ref a_t_worth, .int v_t_lastReason])), (a_t_readPage, .inl (cI, 265, .inl r_t_readPage)), (a_t_text, .inl (cI, 120, .inl r_t_text))] H) _ hS => ?_)
        refine lv_aload_n hx hb dX7_readReference_113 rfl (lv_at hl 0 rfl) ?_
        obtain ⟨ru11, v_t_place_u11, hu11, hf⟩ := pn_bd2_at hf
        refine pn_calli [0, 2] (va_runV (As := []) (rest := []) ⟨hx, hb, hml, hown, hts⟩ (c_X7_takePage l D cI cJ cZ a_t a_t_text a_t_readPage a_t_page a_t_trial a_t_work a_t_book a_t_kept a_t_isKept a_t_seenWhat a_t_seenV a_t_seenIs a_t_label a_t_finds a_t_reason a_t_caseFirst a_t_brief a_t_printed a_t_renamed a_t_worth H.size v_t_thrown v_t_doings v_t_seen v_t_seed v_t_cases v_t_printedSize v_t_lastReason v_t_textSize z10 r_t_text ru11 v_t_place_u11 hu11) (cwV 0 hts gX7_readReference_X7_takePage rfl rfl rfl hdX7_takePage ⟨Nat.le_of_ble_eq_true rfl, Nat.le_of_ble_eq_true rfl⟩) (pn_preV [0, 2] hP (hD.addr rfl) hK rfl rfl (q0 := 0) (ci := 6) rfl rfl) rfl rfl hl.1 rfl (lv_room (Nat.le_of_ble_eq_true rfl)) dX7_readReference_114 ⟨Nat.zero_le _, Nat.zero_le _⟩) hP (hD.addr rfl) hS hA rfl rfl rfl (fun H locs (hP : va_P D vwCl [(a_t, .inr (6, [.int v_t_thrown, .ref a_t_text, .int v_t_textSize, .int v_t_place_u11, .ref a_t_readPage, .ref a_t_page, .ref a_t_trial, .ref a_t_work, .ref a_t_book, .int v_t_doings, .ref a_t_kept, .ref a_t_isKept, .int v_t_seen, .ref a_t_seenWhat, .ref a_t_seenV, .ref a_t_seenIs, .long v_t_seed, .ref a_t_label, .ref a_t_finds, .ref a_t_reason, .ref a_t_caseFirst, .int v_t_cases, .ref a_t_brief, .ref a_t_printed, .int v_t_printedSize, .ref a_t_renamed, .ref a_t_worth, .int v_t_lastReason])), (a_t_readPage, .inl (cI, 265, .inl r_t_readPage)), (a_t_text, .inl (cI, 120, .inl r_t_text))] H) _ hS => ?_)
        refine lv_istore_n (lv' := [(3, .int ru11), (0, .ref a_t), (1, .int p1), (2, .int x2)]) hx hb dX7_readReference_117 rfl hl (by decide) rfl (fun ls hl => ?_)
        refine lv_aload_n hx hb dX7_readReference_118 rfl (lv_at hl 1 rfl) ?_
        refine va_get (D := D) (ci := 6) (v := .ref a_t_readPage) (C := RX7) (T := TX7) (N := 28) hx hb hts hinX7 hown hK.1 hP 0 rfl rfl 4 (by decide) fl_13 (fun _ h9 => h9) rfl dX7_readReference_119 ?_
        refine lv_iload_n hx hb dX7_readReference_122 rfl (lv_at hl 2 rfl) ?_
        refine lv_bipush (v := (7)) hx hb dX7_readReference_123 (by decide) ?_
        refine lv_iadd hx hb dX7_readReference_125 ?_
        refine lv_iload_n hx hb dX7_readReference_126 rfl (lv_at hl 0 rfl) ?_
        obtain ⟨hi13, g12, eg12, hf⟩ := pn_wrI_at hf
        refine pn_stI hx hb hK.1 hP (hD.addr rfl) hS 1 0 rfl rfl hi13 eg12 dX7_readReference_127 (fun H locs (hP : va_P D vwCl [(a_t, .inr (6, [.int v_t_thrown, .ref a_t_text, .int v_t_textSize, .int v_t_place_u11, .ref a_t_readPage, .ref a_t_page, .ref a_t_trial, .ref a_t_work, .ref a_t_book, .int v_t_doings, .ref a_t_kept, .ref a_t_isKept, .int v_t_seen, .ref a_t_seenWhat, .ref a_t_seenV, .ref a_t_seenIs, .long v_t_seed, .ref a_t_label, .ref a_t_finds, .ref a_t_reason, .ref a_t_caseFirst, .int v_t_cases, .ref a_t_brief, .ref a_t_printed, .int v_t_printedSize, .ref a_t_renamed, .ref a_t_worth, .int v_t_lastReason])), (a_t_readPage, .inl (cI, 265, .inl g12)), (a_t_text, .inl (cI, 120, .inl r_t_text))] H) _ hS => ?_)
        refine lv_iload_n hx hb dX7_readReference_128 rfl (lv_at hl 0 rfl) ?_
        refine lv_bipush (v := (-9)) hx hb dX7_readReference_129 (by decide) ?_
        refine lv_icmp_eq (tgt := 138) hx hb dX7_readReference_131 (by decide) (fun c14 => ?_) (fun c14 => ?_)
        · have hf := pn_ifp c14 hf
          refine lv_iconst (v := (0)) hx hb dX7_readReference_138 (by decide) ?_
          refine lv_istore_n (lv' := [(2, .int (0 : Int32)), (3, .int ru11), (0, .ref a_t), (1, .int p1)]) hx hb dX7_readReference_139 rfl hl (by decide) rfl (fun ls hl => ?_)
          refine lv_iload_n hx hb dX7_readReference_140 rfl (lv_at hl 0 rfl) ?_
          cases hf
          rw [hQ]
          exact pn_retz hx hb hr hlocks hP hS rfl rfl dX7_readReference_141
        · have hf := pn_ifn c14 hf
          refine lv_iconst (v := (1)) hx hb dX7_readReference_134 (by decide) ?_
          refine lv_goto (tgt := 139) hx hb dX7_readReference_135 (by decide) ?_
          refine lv_istore_n (lv' := [(2, .int (1 : Int32)), (3, .int ru11), (0, .ref a_t), (1, .int p1)]) hx hb dX7_readReference_139 rfl hl (by decide) rfl (fun ls hl => ?_)
          refine lv_iload_n hx hb dX7_readReference_140 rfl (lv_at hl 0 rfl) ?_
          cases hf
          rw [hQ]
          exact pn_retz hx hb hr hlocks hP hS rfl rfl dX7_readReference_141
  refine lv_iconst (v := (0)) hx hb dX7_readReference_0 (by decide) ?_
  refine lv_istore_n (lv' := [(2, .int (0 : Int32)), (0, .ref a_t), (1, .int p1)]) hx hb dX7_readReference_1 rfl hl (by decide) rfl (fun ls hl => ?_)
  obtain ⟨X2, hX2, hf⟩ := pn_bd1_at hf
  refine lp2 N (0 : Int32) v_t_place r_t_readPage X2 H locs ls hX2 hP hS (lv_sub hl [1, 2, 0] rfl) ?_
  · intro r_t_readPage_w15 H locs ls eX hP hS hl
    rw [eX] at hf
    have hf := pn_u1_at hf
    refine lv_iconst (v := (1)) hx hb dX7_readReference_23 (by decide) ?_
    refine lv_istore_n (lv' := [(2, .int (1 : Int32)), (0, .ref a_t), (1, .int p1)]) hx hb dX7_readReference_24 rfl hl (by decide) rfl (fun ls hl => ?_)
    refine lv_aload_n hx hb dX7_readReference_25 rfl (lv_at hl 1 rfl) ?_
    obtain ⟨ru16, hu16, hf⟩ := pn_bd1_at hf
    refine pn_calli [0, 2] (va_runV (As := []) (rest := []) ⟨hx, hb, hml, hown, hts⟩ (c_X7_next l D cI cJ cZ a_t a_t_text a_t_readPage a_t_page a_t_trial a_t_work a_t_book a_t_kept a_t_isKept a_t_seenWhat a_t_seenV a_t_seenIs a_t_label a_t_finds a_t_reason a_t_caseFirst a_t_brief a_t_printed a_t_renamed a_t_worth H.size v_t_thrown v_t_doings v_t_seen v_t_seed v_t_cases v_t_printedSize v_t_lastReason v_t_textSize v_t_place r_t_text ru16 hu16) (cwV 0 hts gX7_readReference_X7_next rfl rfl rfl hdX7_next ⟨Nat.le_of_ble_eq_true rfl, Nat.le_of_ble_eq_true rfl⟩) (pn_preV [0, 2] hP (hD.addr rfl) hK rfl rfl (q0 := 0) (ci := 6) rfl rfl) rfl rfl hl.1 rfl (lv_room (Nat.le_of_ble_eq_true rfl)) dX7_readReference_26 ⟨Nat.zero_le _, Nat.zero_le _⟩) hP (hD.addr rfl) hS hA rfl rfl rfl (fun H locs (hP : va_P D vwCl [(a_t, .inr (6, [.int v_t_thrown, .ref a_t_text, .int v_t_textSize, .int v_t_place, .ref a_t_readPage, .ref a_t_page, .ref a_t_trial, .ref a_t_work, .ref a_t_book, .int v_t_doings, .ref a_t_kept, .ref a_t_isKept, .int v_t_seen, .ref a_t_seenWhat, .ref a_t_seenV, .ref a_t_seenIs, .long v_t_seed, .ref a_t_label, .ref a_t_finds, .ref a_t_reason, .ref a_t_caseFirst, .int v_t_cases, .ref a_t_brief, .ref a_t_printed, .int v_t_printedSize, .ref a_t_renamed, .ref a_t_worth, .int v_t_lastReason])), (a_t_readPage, .inl (cI, 265, .inl r_t_readPage_w15)), (a_t_text, .inl (cI, 120, .inl r_t_text))] H) _ hS => ?_)
    refine lv_bipush (v := (105)) hx hb dX7_readReference_29 (by decide) ?_
    refine lv_icmp_ne (tgt := 56) hx hb dX7_readReference_31 (by decide) (fun c17 => ?_) (fun c17 => ?_)
    · have hf := pn_ifp c17 hf
      refine lv_aload_n hx hb dX7_readReference_56 rfl (lv_at hl 1 rfl) ?_
      obtain ⟨ru18, hu18, hf⟩ := pn_bd1_at hf
      refine pn_calli [0, 2] (va_runV (As := []) (rest := []) ⟨hx, hb, hml, hown, hts⟩ (c_X7_next l D cI cJ cZ a_t a_t_text a_t_readPage a_t_page a_t_trial a_t_work a_t_book a_t_kept a_t_isKept a_t_seenWhat a_t_seenV a_t_seenIs a_t_label a_t_finds a_t_reason a_t_caseFirst a_t_brief a_t_printed a_t_renamed a_t_worth H.size v_t_thrown v_t_doings v_t_seen v_t_seed v_t_cases v_t_printedSize v_t_lastReason v_t_textSize v_t_place r_t_text ru18 hu18) (cwV 0 hts gX7_readReference_X7_next rfl rfl rfl hdX7_next ⟨Nat.le_of_ble_eq_true rfl, Nat.le_of_ble_eq_true rfl⟩) (pn_preV [0, 2] hP (hD.addr rfl) hK rfl rfl (q0 := 0) (ci := 6) rfl rfl) rfl rfl hl.1 rfl (lv_room (Nat.le_of_ble_eq_true rfl)) dX7_readReference_57 ⟨Nat.zero_le _, Nat.zero_le _⟩) hP (hD.addr rfl) hS hA rfl rfl rfl (fun H locs (hP : va_P D vwCl [(a_t, .inr (6, [.int v_t_thrown, .ref a_t_text, .int v_t_textSize, .int v_t_place, .ref a_t_readPage, .ref a_t_page, .ref a_t_trial, .ref a_t_work, .ref a_t_book, .int v_t_doings, .ref a_t_kept, .ref a_t_isKept, .int v_t_seen, .ref a_t_seenWhat, .ref a_t_seenV, .ref a_t_seenIs, .long v_t_seed, .ref a_t_label, .ref a_t_finds, .ref a_t_reason, .ref a_t_caseFirst, .int v_t_cases, .ref a_t_brief, .ref a_t_printed, .int v_t_printedSize, .ref a_t_renamed, .ref a_t_worth, .int v_t_lastReason])), (a_t_readPage, .inl (cI, 265, .inl r_t_readPage_w15)), (a_t_text, .inl (cI, 120, .inl r_t_text))] H) _ hS => ?_)
      refine lv_bipush (v := (97)) hx hb dX7_readReference_60 (by decide) ?_
      refine lv_icmp_ne (tgt := 84) hx hb dX7_readReference_62 (by decide) (fun c19 => ?_) (fun c19 => ?_)
      · have hf := pn_ifp c19 hf
        refine lv_aload_n hx hb dX7_readReference_84 rfl (lv_at hl 1 rfl) ?_
        refine lv_iload_n hx hb dX7_readReference_85 rfl (lv_at hl 2 rfl) ?_
        obtain ⟨ru20, v_t_place_u20, r_t_readPage_u20, hu20, hf⟩ := pn_bd3_at hf
        refine pn_calli [0, 1, 2] (va_runV (As := [.int p1]) (rest := []) ⟨hx, hb, hml, hown, hts⟩ (c_X7_readName l D cI cJ cZ a_t a_t_text a_t_readPage a_t_page a_t_trial a_t_work a_t_book a_t_kept a_t_isKept a_t_seenWhat a_t_seenV a_t_seenIs a_t_label a_t_finds a_t_reason a_t_caseFirst a_t_brief a_t_printed a_t_renamed a_t_worth H.size v_t_thrown v_t_doings v_t_seen v_t_seed v_t_cases v_t_printedSize v_t_lastReason v_t_textSize v_t_place r_t_readPage_w15 r_t_text p1 ru20 v_t_place_u20 r_t_readPage_u20 hu20) (cwV 1 hts gX7_readReference_X7_readName rfl rfl rfl hdX7_readName ⟨Nat.le_of_ble_eq_true rfl, Nat.le_of_ble_eq_true rfl⟩) (pn_preV [0, 1, 2] hP (hD.addr rfl) hK rfl rfl (q0 := 0) (ci := 6) rfl rfl) rfl rfl hl.1 rfl (lv_room (Nat.le_of_ble_eq_true rfl)) dX7_readReference_86 ⟨Nat.zero_le _, Nat.zero_le _⟩) hP (hD.addr rfl) hS hA rfl rfl rfl (fun H locs (hP : va_P D vwCl [(a_t, .inr (6, [.int v_t_thrown, .ref a_t_text, .int v_t_textSize, .int v_t_place_u20, .ref a_t_readPage, .ref a_t_page, .ref a_t_trial, .ref a_t_work, .ref a_t_book, .int v_t_doings, .ref a_t_kept, .ref a_t_isKept, .int v_t_seen, .ref a_t_seenWhat, .ref a_t_seenV, .ref a_t_seenIs, .long v_t_seed, .ref a_t_label, .ref a_t_finds, .ref a_t_reason, .ref a_t_caseFirst, .int v_t_cases, .ref a_t_brief, .ref a_t_printed, .int v_t_printedSize, .ref a_t_renamed, .ref a_t_worth, .int v_t_lastReason])), (a_t_readPage, .inl (cI, 265, .inl r_t_readPage_u20)), (a_t_text, .inl (cI, 120, .inl r_t_text))] H) _ hS => ?_)
        refine lv_istore_n (lv' := [(2, .int ru20), (0, .ref a_t), (1, .int p1)]) hx hb dX7_readReference_89 rfl hl (by decide) rfl (fun ls hl => ?_)
        exact jn90 ru20 v_t_place_u20 r_t_readPage_u20 H locs ls hf hP hS (lv_sub hl [1, 2, 0] rfl)
      · have hf := pn_ifq c19 hf
        refine lv_aload_n hx hb dX7_readReference_65 rfl (lv_at hl 1 rfl) ?_
        refine lv_dup hx hb dX7_readReference_66 rfl ?_
        refine va_get (D := D) (ci := 6) (v := .int v_t_place) (C := RX7) (T := TX7) (N := 28) hx hb hts hinX7 hown hK.1 hP 0 rfl rfl 3 (by decide) fl_89 (fun _ h9 => h9) rfl dX7_readReference_67 ?_
        refine lv_iconst (v := (1)) hx hb dX7_readReference_70 (by decide) ?_
        refine lv_iadd hx hb dX7_readReference_71 ?_
        refine lv_topi (fun z21 ez21 => ?_)
        have hf := pn_nm_at ez21 hf
        refine va_put (D := D) (ci := 6) (v := .int z21) (ty := .int) (C := RX7) (T := TX7) (N := 28) hx hb hts hinX7 tyX7 tyX7_ok nmX7 hown hK.1 hP (hD.addr rfl) hS 0 rfl rfl 3 (by decide) fl_89 (fun _ h9 => h9) rfl (by decide +kernel) rfl rfl (Nat.le_of_ble_eq_true rfl) dX7_readReference_72 (fun H locs (hP : va_P D vwCl [(a_t, .inr (6, [.int v_t_thrown, .ref a_t_text, .int v_t_textSize, .int z21, .ref a_t_readPage, .ref a_t_page, .ref a_t_trial, .ref a_t_work, .ref a_t_book, .int v_t_doings, .ref a_t_kept, .ref a_t_isKept, .int v_t_seen, .ref a_t_seenWhat, .ref a_t_seenV, .ref a_t_seenIs, .long v_t_seed, .ref a_t_label, .ref a_t_finds, .ref a_t_reason, .ref a_t_caseFirst, .int v_t_cases, .ref a_t_brief, .ref a_t_printed, .int v_t_printedSize, .ref a_t_renamed, .ref a_t_worth, .int v_t_lastReason])), (a_t_readPage, .inl (cI, 265, .inl r_t_readPage_w15)), (a_t_text, .inl (cI, 120, .inl r_t_text))] H) _ hS => ?_)
        refine lv_aload_n hx hb dX7_readReference_75 rfl (lv_at hl 1 rfl) ?_
        refine lv_iload_n hx hb dX7_readReference_76 rfl (lv_at hl 2 rfl) ?_
        obtain ⟨ru22, v_t_place_u22, r_t_readPage_u22, hu22, hf⟩ := pn_bd3_at hf
        refine pn_calli [0, 1, 2] (va_runV (As := [.int p1]) (rest := []) ⟨hx, hb, hml, hown, hts⟩ (c_X7_readAbove l D cI cJ cZ a_t a_t_text a_t_readPage a_t_page a_t_trial a_t_work a_t_book a_t_kept a_t_isKept a_t_seenWhat a_t_seenV a_t_seenIs a_t_label a_t_finds a_t_reason a_t_caseFirst a_t_brief a_t_printed a_t_renamed a_t_worth H.size v_t_thrown v_t_doings v_t_seen v_t_seed v_t_cases v_t_printedSize v_t_lastReason v_t_textSize z21 r_t_readPage_w15 r_t_text p1 ru22 v_t_place_u22 r_t_readPage_u22 hu22) (cwV 1 hts gX7_readReference_X7_readAbove rfl rfl rfl hdX7_readAbove ⟨Nat.le_of_ble_eq_true rfl, Nat.le_of_ble_eq_true rfl⟩) (pn_preV [0, 1, 2] hP (hD.addr rfl) hK rfl rfl (q0 := 0) (ci := 6) rfl rfl) rfl rfl hl.1 rfl (lv_room (Nat.le_of_ble_eq_true rfl)) dX7_readReference_77 ⟨Nat.zero_le _, Nat.zero_le _⟩) hP (hD.addr rfl) hS hA rfl rfl rfl (fun H locs (hP : va_P D vwCl [(a_t, .inr (6, [.int v_t_thrown, .ref a_t_text, .int v_t_textSize, .int v_t_place_u22, .ref a_t_readPage, .ref a_t_page, .ref a_t_trial, .ref a_t_work, .ref a_t_book, .int v_t_doings, .ref a_t_kept, .ref a_t_isKept, .int v_t_seen, .ref a_t_seenWhat, .ref a_t_seenV, .ref a_t_seenIs, .long v_t_seed, .ref a_t_label, .ref a_t_finds, .ref a_t_reason, .ref a_t_caseFirst, .int v_t_cases, .ref a_t_brief, .ref a_t_printed, .int v_t_printedSize, .ref a_t_renamed, .ref a_t_worth, .int v_t_lastReason])), (a_t_readPage, .inl (cI, 265, .inl r_t_readPage_u22)), (a_t_text, .inl (cI, 120, .inl r_t_text))] H) _ hS => ?_)
        refine lv_istore_n (lv' := [(2, .int ru22), (0, .ref a_t), (1, .int p1)]) hx hb dX7_readReference_80 rfl hl (by decide) rfl (fun ls hl => ?_)
        refine lv_goto (tgt := 90) hx hb dX7_readReference_81 (by decide) ?_
        exact jn90 ru22 v_t_place_u22 r_t_readPage_u22 H locs ls hf hP hS (lv_sub hl [1, 2, 0] rfl)
    · have hf := pn_ifq c17 hf
      refine lv_aload_n hx hb dX7_readReference_34 rfl (lv_at hl 1 rfl) ?_
      refine lv_dup hx hb dX7_readReference_35 rfl ?_
      refine va_get (D := D) (ci := 6) (v := .int v_t_place) (C := RX7) (T := TX7) (N := 28) hx hb hts hinX7 hown hK.1 hP 0 rfl rfl 3 (by decide) fl_89 (fun _ h9 => h9) rfl dX7_readReference_36 ?_
      refine lv_iconst (v := (1)) hx hb dX7_readReference_39 (by decide) ?_
      refine lv_iadd hx hb dX7_readReference_40 ?_
      refine lv_topi (fun z23 ez23 => ?_)
      have hf := pn_nm_at ez23 hf
      refine va_put (D := D) (ci := 6) (v := .int z23) (ty := .int) (C := RX7) (T := TX7) (N := 28) hx hb hts hinX7 tyX7 tyX7_ok nmX7 hown hK.1 hP (hD.addr rfl) hS 0 rfl rfl 3 (by decide) fl_89 (fun _ h9 => h9) rfl (by decide +kernel) rfl rfl (Nat.le_of_ble_eq_true rfl) dX7_readReference_41 (fun H locs (hP : va_P D vwCl [(a_t, .inr (6, [.int v_t_thrown, .ref a_t_text, .int v_t_textSize, .int z23, .ref a_t_readPage, .ref a_t_page, .ref a_t_trial, .ref a_t_work, .ref a_t_book, .int v_t_doings, .ref a_t_kept, .ref a_t_isKept, .int v_t_seen, .ref a_t_seenWhat, .ref a_t_seenV, .ref a_t_seenIs, .long v_t_seed, .ref a_t_label, .ref a_t_finds, .ref a_t_reason, .ref a_t_caseFirst, .int v_t_cases, .ref a_t_brief, .ref a_t_printed, .int v_t_printedSize, .ref a_t_renamed, .ref a_t_worth, .int v_t_lastReason])), (a_t_readPage, .inl (cI, 265, .inl r_t_readPage_w15)), (a_t_text, .inl (cI, 120, .inl r_t_text))] H) _ hS => ?_)
      refine lv_aload_n hx hb dX7_readReference_44 rfl (lv_at hl 1 rfl) ?_
      refine va_get (D := D) (ci := 6) (v := .ref a_t_readPage) (C := RX7) (T := TX7) (N := 28) hx hb hts hinX7 hown hK.1 hP 0 rfl rfl 4 (by decide) fl_13 (fun _ h9 => h9) rfl dX7_readReference_45 ?_
      refine lv_iload_n hx hb dX7_readReference_48 rfl (lv_at hl 2 rfl) ?_
      refine lv_iconst (v := (0)) hx hb dX7_readReference_49 (by decide) ?_
      refine lv_iadd hx hb dX7_readReference_50 ?_
      refine lv_iconst (v := (2)) hx hb dX7_readReference_51 (by decide) ?_
      obtain ⟨hi25, g24, eg24, hf⟩ := pn_wrI_at hf
      refine pn_stI hx hb hK.1 hP (hD.addr rfl) hS 1 0 rfl rfl hi25 eg24 dX7_readReference_52 (fun H locs (hP : va_P D vwCl [(a_t, .inr (6, [.int v_t_thrown, .ref a_t_text, .int v_t_textSize, .int z23, .ref a_t_readPage, .ref a_t_page, .ref a_t_trial, .ref a_t_work, .ref a_t_book, .int v_t_doings, .ref a_t_kept, .ref a_t_isKept, .int v_t_seen, .ref a_t_seenWhat, .ref a_t_seenV, .ref a_t_seenIs, .long v_t_seed, .ref a_t_label, .ref a_t_finds, .ref a_t_reason, .ref a_t_caseFirst, .int v_t_cases, .ref a_t_brief, .ref a_t_printed, .int v_t_printedSize, .ref a_t_renamed, .ref a_t_worth, .int v_t_lastReason])), (a_t_readPage, .inl (cI, 265, .inl g24)), (a_t_text, .inl (cI, 120, .inl r_t_text))] H) _ hS => ?_)
      refine lv_goto (tgt := 90) hx hb dX7_readReference_53 (by decide) ?_
      exact jn90 (1 : Int32) z23 g24 H locs ls hf hP hS (lv_sub hl [1, 2, 0] rfl)
