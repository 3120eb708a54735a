theorem hdX3_holds : yX3_holds.cls = RX3 ∧ yX3_holds.cls ≠ "java/lang/invoke/MethodHandle" ∧ yX3_holds.cls ≠ "java/lang/invoke/VarHandle" ∧ (parseMethodDescriptor yX3_holds.desc).map (fun d => d.parameters.length) = some 1 := by decide +kernel
theorem hdX3_clear : yX3_clear.cls = RX3 ∧ yX3_clear.cls ≠ "java/lang/invoke/MethodHandle" ∧ yX3_clear.cls ≠ "java/lang/invoke/VarHandle" ∧ (parseMethodDescriptor yX3_clear.desc).map (fun d => d.parameters.length) = some 0 := by decide +kernel
theorem hdX3_store : yX3_store.cls = RX3 ∧ yX3_store.cls ≠ "java/lang/invoke/MethodHandle" ∧ yX3_store.cls ≠ "java/lang/invoke/VarHandle" ∧ (parseMethodDescriptor yX3_store.desc).map (fun d => d.parameters.length) = some 2 := by decide +kernel
theorem hdX3_fetch : yX3_fetch.cls = RX3 ∧ yX3_fetch.cls ≠ "java/lang/invoke/MethodHandle" ∧ yX3_fetch.cls ≠ "java/lang/invoke/VarHandle" ∧ (parseMethodDescriptor yX3_fetch.desc).map (fun d => d.parameters.length) = some 2 := by decide +kernel
def f_X3_holds (v_t_places : Int32) (n_t_filled : Nat) (r_t_filled : Nat → Int32) (p1 : Int32) : Option (Int32) :=
  if p1 < 0 then
  some (0 : Int32)
  else
  if v_t_places ≤ p1 then
  some (0 : Int32)
  else
  pn_rd n_t_filled r_t_filled p1 fun w3 =>
  if w3 = 0 then
  some (0 : Int32)
  else
  some (1 : Int32)
set_option maxHeartbeats 4000000 in
set_option maxRecDepth 100000 in
theorem c_X3_holds (l : Launch) (D : va_G) (cI cJ cZ : ClassId) (a_t a_t_filled a_t_notes a_t_sizes a_t_cites : Nat) (sz : Nat) (v_t_places : Int32) (n_t_filled : Nat) (r_t_filled : Nat → Int32) (p1 : Int32) (rR : Int32) (hf : f_X3_holds v_t_places n_t_filled r_t_filled p1 = some rR) : Met l yX3_holds wsX3_holds { frames := 0, cells := 0, slots := 0, locals := 0 } (pn_Pc D cI cJ cZ [.ref a_t, .int p1] [(a_t, .inr (2, [.int v_t_places, .ref a_t_filled, .ref a_t_notes, .ref a_t_sizes, .ref a_t_cites])), (a_t_filled, .inl (cZ, n_t_filled, .inl r_t_filled))] sz) (pn_Qi D rR [(a_t, .inr (2, [.int v_t_places, .ref a_t_filled, .ref a_t_notes, .ref a_t_sizes, .ref a_t_cites])), (a_t_filled, .inl (cZ, n_t_filled, .inl r_t_filled))] (va_A [(a_t, .inr (2, [.int v_t_places, .ref a_t_filled, .ref a_t_notes, .ref a_t_sizes, .ref a_t_cites])), (a_t_filled, .inl (cZ, n_t_filled, .inl r_t_filled))] sz)) 0 0 (va_A [(a_t, .inr (2, [.int v_t_places, .ref a_t_filled, .ref a_t_notes, .ref a_t_sizes, .ref a_t_cites])), (a_t_filled, .inl (cZ, n_t_filled, .inl r_t_filled))] sz) := by
  refine pn_entry (cc := cX3_holds) (maxL := 2) (ret := (some .boolean)) (Qf := pn_Qi D rR [(a_t, .inr (2, [.int v_t_places, .ref a_t_filled, .ref a_t_notes, .ref a_t_sizes, .ref a_t_cites])), (a_t_filled, .inl (cZ, n_t_filled, .inl r_t_filled))]) (by decide) rfl (Nat.le_of_ble_eq_true rfl) ?_
  intro p e s m args below meth c A ls H locs Qm hQ hx hb hr hlocks hml hown hts hK hP hD hA hS hl
  have hl : lv_has ls 2 [(0, .ref a_t), (1, .int p1)] := hl
  have hinX3 : ∀ w ∈ wsX30, w ∈ wsX3_holds := by decide +kernel
  have fl_15 := hts (.fieldLink RX3 15 "PointingNotes$Shelf" "places" "I") (by decide +kernel)
  have fl_21 := hts (.fieldLink RX3 21 "PointingNotes$Shelf" "filled" "[Z") (by decide +kernel)
  rw [f_X3_holds] at hf
  refine lv_iload_n hx hb dX3_holds_0 rfl (lv_at hl 1 rfl) ?_
  refine lv_if_lt (tgt := 25) hx hb dX3_holds_1 (by decide) (fun c1 => ?_) (fun c1 => ?_)
  · have hf := pn_ifp c1 hf
    refine lv_iconst (v := (0)) hx hb dX3_holds_25 (by decide) ?_
    cases hf
    rw [hQ]
    exact pn_retz hx hb hr hlocks hP hS rfl rfl dX3_holds_26
  · have hf := pn_ifn c1 hf
    refine lv_iload_n hx hb dX3_holds_4 rfl (lv_at hl 1 rfl) ?_
    refine lv_aload_n hx hb dX3_holds_5 rfl (lv_at hl 0 rfl) ?_
    refine va_get (D := D) (ci := 2) (v := .int v_t_places) (C := RX3) (T := TX3) (N := 5) hx hb hts hinX3 hown hK.1 hP 0 rfl rfl 0 (by decide) fl_15 (fun _ h9 => h9) rfl dX3_holds_6 ?_
    refine lv_icmp_ge (tgt := 25) hx hb dX3_holds_9 (by decide) (fun c2 => ?_) (fun c2 => ?_)
    · have hf := pn_ifp c2 hf
      refine lv_iconst (v := (0)) hx hb dX3_holds_25 (by decide) ?_
      cases hf
      rw [hQ]
      exact pn_retz hx hb hr hlocks hP hS rfl rfl dX3_holds_26
    · have hf := pn_ifn c2 hf
      refine lv_aload_n hx hb dX3_holds_12 rfl (lv_at hl 0 rfl) ?_
      refine va_get (D := D) (ci := 2) (v := .ref a_t_filled) (C := RX3) (T := TX3) (N := 5) hx hb hts hinX3 hown hK.1 hP 0 rfl rfl 1 (by decide) fl_21 (fun _ h9 => h9) rfl dX3_holds_13 ?_
      refine lv_iload_n hx hb dX3_holds_16 rfl (lv_at hl 1 rfl) ?_
      obtain ⟨hi4, w3, ew3, hf⟩ := pn_rd_at hf
      refine pn_ldZ hx hb hK.1 hP 1 2 rfl rfl hi4 ew3 dX3_holds_17 ?_
      refine lv_if_eq (tgt := 25) hx hb dX3_holds_18 (by decide) (fun c5 => ?_) (fun c5 => ?_)
      · have hf := pn_ifp c5 hf
        refine lv_iconst (v := (0)) hx hb dX3_holds_25 (by decide) ?_
        cases hf
        rw [hQ]
        exact pn_retz hx hb hr hlocks hP hS rfl rfl dX3_holds_26
      · have hf := pn_ifn c5 hf
        refine lv_iconst (v := (1)) hx hb dX3_holds_21 (by decide) ?_
        refine lv_goto (tgt := 26) hx hb dX3_holds_22 (by decide) ?_
        cases hf
        rw [hQ]
        exact pn_retz hx hb hr hlocks hP hS rfl rfl dX3_holds_26
def lp_X3_clear_2 (v_t_places : Int32) (n_t_filled : Nat) : Nat → Int32 → (Nat → Int32) → Option ((Nat → Int32))
  | 0, _, _ => none
  | n + 1, x1, r_t_filled =>
    if v_t_places ≤ x1 then
  some r_t_filled
  else
  pn_wrZ n_t_filled r_t_filled x1 (0 : Int32) fun g2 =>
  pn_nm (x1 + (1 : Int32)) fun z4 =>
  lp_X3_clear_2 v_t_places n_t_filled n z4 g2
def f_X3_clear (N : Nat) (v_t_places : Int32) (n_t_filled : Nat) (r_t_filled : Nat → Int32) : Option ((Nat → Int32)) :=
  pn_bd1 (lp_X3_clear_2 v_t_places n_t_filled N (0 : Int32) r_t_filled) (fun X2 => (pn_u1 fun r_t_filled_w5 => some r_t_filled_w5) X2)
set_option maxHeartbeats 4000000 in
set_option maxRecDepth 100000 in
theorem c_X3_clear (l : Launch) (D : va_G) (cI cJ cZ : ClassId) (a_t a_t_filled a_t_notes a_t_sizes a_t_cites : Nat) (sz : Nat) (N : Nat) (v_t_places : Int32) (n_t_filled : Nat) (r_t_filled : Nat → Int32) (o_t_filled : Nat → Int32) (hf : f_X3_clear N v_t_places n_t_filled r_t_filled = some o_t_filled) : Met l yX3_clear wsX3_clear { frames := 0, cells := 0, slots := 0, locals := 0 } (pn_Pc D cI cJ cZ [.ref a_t] [(a_t, .inr (2, [.int v_t_places, .ref a_t_filled, .ref a_t_notes, .ref a_t_sizes, .ref a_t_cites])), (a_t_filled, .inl (cZ, n_t_filled, .inl r_t_filled))] sz) (pn_Qv D [(a_t, .inr (2, [.int v_t_places, .ref a_t_filled, .ref a_t_notes, .ref a_t_sizes, .ref a_t_cites])), (a_t_filled, .inl (cZ, n_t_filled, .inl o_t_filled))] (va_A [(a_t, .inr (2, [.int v_t_places, .ref a_t_filled, .ref a_t_notes, .ref a_t_sizes, .ref a_t_cites])), (a_t_filled, .inl (cZ, n_t_filled, .inl r_t_filled))] sz)) 0 0 (va_A [(a_t, .inr (2, [.int v_t_places, .ref a_t_filled, .ref a_t_notes, .ref a_t_sizes, .ref a_t_cites])), (a_t_filled, .inl (cZ, n_t_filled, .inl r_t_filled))] sz) := by
  refine pn_entry (cc := cX3_clear) (maxL := 2) (ret := none) (Qf := pn_Qv D [(a_t, .inr (2, [.int v_t_places, .ref a_t_filled, .ref a_t_notes, .ref a_t_sizes, .ref a_t_cites])), (a_t_filled, .inl (cZ, n_t_filled, .inl o_t_filled))]) (by decide) rfl (Nat.le_of_ble_eq_true rfl) ?_
  intro p e s m args below meth c A ls H locs Qm hQ hx hb hr hlocks hml hown hts hK hP hD hA hS hl
  have hl : lv_has ls 2 [(0, .ref a_t)] := hl
  have hinX3 : ∀ w ∈ wsX30, w ∈ wsX3_clear := by decide +kernel
  have fl_15 := hts (.fieldLink RX3 15 "PointingNotes$Shelf" "places" "I") (by decide +kernel)
  have fl_21 := hts (.fieldLink RX3 21 "PointingNotes$Shelf" "filled" "[Z") (by decide +kernel)
  rw [f_X3_clear] at hf
  have lp2 : ∀ (n : Nat) (x1 : Int32) (r_t_filled : Nat → Int32) (X : (Nat → Int32)) (H : Heap) (locs : List Loc) (ls : Array Slot), lp_X3_clear_2 v_t_places n_t_filled n x1 r_t_filled = some X → va_P D vwCl [(a_t, .inr (2, [.int v_t_places, .ref a_t_filled, .ref a_t_notes, .ref a_t_sizes, .ref a_t_cites])), (a_t_filled, .inl (cZ, n_t_filled, .inl r_t_filled))] H → va_S A s.heap H locs → lv_has ls 2 [(0, .ref a_t), (1, .int x1)] → (∀  (r_t_filled' : Nat → Int32) (H : Heap) (locs : List Loc) (ls : Array Slot), X = r_t_filled' → va_P D vwCl [(a_t, .inr (2, [.int v_t_places, .ref a_t_filled, .ref a_t_notes, .ref a_t_sizes, .ref a_t_cites])), (a_t_filled, .inl (cZ, n_t_filled, .inl (r_t_filled')))] H → va_S A s.heap H locs → lv_has ls 2 [] → W p l e { frames := 0, cells := 0, slots := 0, locals := 0 } s m args below meth c H locs 0 0 Qm (F0 m 23 ls [])) → W p l e { frames := 0, cells := 0, slots := 0, locals := 0 } s m args below meth c H locs 0 0 Qm (F0 m 2 ls []) := by
    intro n
    induction n with
    | zero => intro x1 r_t_filled X H locs ls hf; cases hf
    | succ n ih =>
      intro x1 r_t_filled X H locs ls hf hP hS hl kx23
      rw [lp_X3_clear_2] at hf
      refine lv_iload_n hx hb dX3_clear_2 rfl (lv_at hl 1 rfl) ?_
      refine lv_aload_n hx hb dX3_clear_3 rfl (lv_at hl 0 rfl) ?_
      refine va_get (D := D) (ci := 2) (v := .int v_t_places) (C := RX3) (T := TX3) (N := 5) hx hb hts hinX3 hown hK.1 hP 0 rfl rfl 0 (by decide) fl_15 (fun _ h9 => h9) rfl dX3_clear_4 ?_
      refine lv_icmp_ge (tgt := 23) hx hb dX3_clear_7 (by decide) (fun c1 => ?_) (fun c1 => ?_)
      · have hf := pn_ifp c1 hf
        exact kx23 r_t_filled H locs ls (Option.some.inj hf).symm hP hS (lv_sub hl [] rfl)
      · have hf := pn_ifn c1 hf
        refine lv_aload_n hx hb dX3_clear_10 rfl (lv_at hl 0 rfl) ?_
        refine va_get (D := D) (ci := 2) (v := .ref a_t_filled) (C := RX3) (T := TX3) (N := 5) hx hb hts hinX3 hown hK.1 hP 0 rfl rfl 1 (by decide) fl_21 (fun _ h9 => h9) rfl dX3_clear_11 ?_
        refine lv_iload_n hx hb dX3_clear_14 rfl (lv_at hl 1 rfl) ?_
        refine lv_iconst (v := (0)) hx hb dX3_clear_15 (by decide) ?_
        obtain ⟨hi3, g2, eg2, hf⟩ := pn_wrZ_at hf
        refine pn_stZ hx hb hK.1 hP (hD.addr rfl) hS 1 2 rfl rfl hi3 eg2 dX3_clear_16 (fun H locs (hP : va_P D vwCl [(a_t, .inr (2, [.int v_t_places, .ref a_t_filled, .ref a_t_notes, .ref a_t_sizes, .ref a_t_cites])), (a_t_filled, .inl (cZ, n_t_filled, .inl g2))] H) _ hS => ?_)
        obtain ⟨z4, ez4⟩ : ∃ y : Int32, y = x1 + (1) := ⟨_, rfl⟩
        have hf := pn_nm_at ez4 hf
        refine lv_iinc (v := z4) (lv' := [(1, .int z4), (0, .ref a_t)]) hx hb dX3_clear_17 hl (k := 1) rfl (by rw [ez4]; rfl) (by decide) rfl (fun ls hl => ?_)
        refine lv_goto (tgt := 2) hx hb dX3_clear_20 (by decide) ?_
        exact ih z4 g2 X H locs ls hf hP hS (lv_sub hl [1, 0] rfl) kx23
  refine lv_iconst (v := (0)) hx hb dX3_clear_0 (by decide) ?_
  refine lv_istore_n (lv' := [(1, .int (0 : Int32)), (0, .ref a_t)]) hx hb dX3_clear_1 rfl hl (by decide) rfl (fun ls hl => ?_)
  obtain ⟨X2, hX2, hf⟩ := pn_bd1_at hf
  refine lp2 N (0 : Int32) r_t_filled X2 H locs ls hX2 hP hS (lv_sub hl [1, 0] rfl) ?_
  · intro r_t_filled_w5 H locs ls eX hP hS hl
    rw [eX] at hf
    have hf := pn_u1_at hf
    cases hf
    rw [hQ]
    exact pn_retv hx hb hr hlocks hP hS dX3_clear_23
def f_X3_store (v_t_places : Int32) (n_t_cites : Nat) (r_t_cites : Nat → Int64) (n_t_filled : Nat) (r_t_filled : Nat → Int32) (n_t_notes : Nat) (r_t_notes : Nat → Int32) (n_t_sizes : Nat) (r_t_sizes : Nat → Int32) (v_q2_notes : Int32) (r_q2_cites : Nat → Int64) (r_q2_sizes : Nat → Int32) (p1 : Int32) : Option ((Nat → Int64) × (Nat → Int32) × (Nat → Int32) × (Nat → Int32)) :=
  if p1 < 0 then
  some (r_t_cites, r_t_filled, r_t_notes, r_t_sizes)
  else
  if p1 < v_t_places then
  pn_wrZ n_t_filled r_t_filled p1 (1 : Int32) fun g3 =>
  pn_bd1 (f_X1_notes v_q2_notes) fun ru5 =>
  pn_wrI n_t_notes r_t_notes p1 ru5 fun g6 =>
  pn_bd2 (f_X1_saveTo r_q2_cites r_q2_sizes n_t_sizes r_t_sizes n_t_cites r_t_cites p1) fun r_t_sizes_u8 r_t_cites_u8 =>
  some (r_t_cites_u8, g3, g6, r_t_sizes_u8)
  else
  some (r_t_cites, r_t_filled, r_t_notes, r_t_sizes)
set_option maxHeartbeats 4000000 in
set_option maxRecDepth 100000 in
theorem c_X3_store (l : Launch) (D : va_G) (cI cJ cZ : ClassId) (a_t a_t_filled a_t_notes a_t_sizes a_t_cites a_q2 a_q2_sizes a_q2_cites : Nat) (sz : Nat) (v_q2_version : Int32) (v_t_places : Int32) (n_t_cites : Nat) (r_t_cites : Nat → Int64) (n_t_filled : Nat) (r_t_filled : Nat → Int32) (n_t_notes : Nat) (r_t_notes : Nat → Int32) (n_t_sizes : Nat) (r_t_sizes : Nat → Int32) (v_q2_notes : Int32) (r_q2_cites : Nat → Int64) (r_q2_sizes : Nat → Int32) (p1 : Int32) (o_t_cites : Nat → Int64) (o_t_filled : Nat → Int32) (o_t_notes : Nat → Int32) (o_t_sizes : Nat → Int32) (hf : f_X3_store v_t_places n_t_cites r_t_cites n_t_filled r_t_filled n_t_notes r_t_notes n_t_sizes r_t_sizes v_q2_notes r_q2_cites r_q2_sizes p1 = some (o_t_cites, o_t_filled, o_t_notes, o_t_sizes)) : Met l yX3_store wsX3_store { frames := 2, cells := 0, slots := 0, locals := 83 } (pn_Pc D cI cJ cZ [.ref a_t, .int p1, .ref a_q2] [(a_t, .inr (2, [.int v_t_places, .ref a_t_filled, .ref a_t_notes, .ref a_t_sizes, .ref a_t_cites])), (a_t_cites, .inl (cJ, n_t_cites, .inr (.inl r_t_cites))), (a_t_filled, .inl (cZ, n_t_filled, .inl r_t_filled)), (a_t_notes, .inl (cI, n_t_notes, .inl r_t_notes)), (a_t_sizes, .inl (cI, n_t_sizes, .inl r_t_sizes)), (a_q2, .inr (0, [.ref a_q2_sizes, .ref a_q2_cites, .int v_q2_notes, .int v_q2_version])), (a_q2_cites, .inl (cJ, 32, .inr (.inl r_q2_cites))), (a_q2_sizes, .inl (cI, 8, .inl r_q2_sizes))] sz) (pn_Qv D [(a_t, .inr (2, [.int v_t_places, .ref a_t_filled, .ref a_t_notes, .ref a_t_sizes, .ref a_t_cites])), (a_t_cites, .inl (cJ, n_t_cites, .inr (.inl o_t_cites))), (a_t_filled, .inl (cZ, n_t_filled, .inl o_t_filled)), (a_t_notes, .inl (cI, n_t_notes, .inl o_t_notes)), (a_t_sizes, .inl (cI, n_t_sizes, .inl o_t_sizes)), (a_q2, .inr (0, [.ref a_q2_sizes, .ref a_q2_cites, .int v_q2_notes, .int v_q2_version])), (a_q2_cites, .inl (cJ, 32, .inr (.inl r_q2_cites))), (a_q2_sizes, .inl (cI, 8, .inl r_q2_sizes))] (va_A [(a_t, .inr (2, [.int v_t_places, .ref a_t_filled, .ref a_t_notes, .ref a_t_sizes, .ref a_t_cites])), (a_t_cites, .inl (cJ, n_t_cites, .inr (.inl r_t_cites))), (a_t_filled, .inl (cZ, n_t_filled, .inl r_t_filled)), (a_t_notes, .inl (cI, n_t_notes, .inl r_t_notes)), (a_t_sizes, .inl (cI, n_t_sizes, .inl r_t_sizes)), (a_q2, .inr (0, [.ref a_q2_sizes, .ref a_q2_cites, .int v_q2_notes, .int v_q2_version])), (a_q2_cites, .inl (cJ, 32, .inr (.inl r_q2_cites))), (a_q2_sizes, .inl (cI, 8, .inl r_q2_sizes))] sz)) 0 0 (va_A [(a_t, .inr (2, [.int v_t_places, .ref a_t_filled, .ref a_t_notes, .ref a_t_sizes, .ref a_t_cites])), (a_t_cites, .inl (cJ, n_t_cites, .inr (.inl r_t_cites))), (a_t_filled, .inl (cZ, n_t_filled, .inl r_t_filled)), (a_t_notes, .inl (cI, n_t_notes, .inl r_t_notes)), (a_t_sizes, .inl (cI, n_t_sizes, .inl r_t_sizes)), (a_q2, .inr (0, [.ref a_q2_sizes, .ref a_q2_cites, .int v_q2_notes, .int v_q2_version])), (a_q2_cites, .inl (cJ, 32, .inr (.inl r_q2_cites))), (a_q2_sizes, .inl (cI, 8, .inl r_q2_sizes))] sz) := by
  refine pn_entry (cc := cX3_store) (maxL := 3) (ret := none) (Qf := pn_Qv D [(a_t, .inr (2, [.int v_t_places, .ref a_t_filled, .ref a_t_notes, .ref a_t_sizes, .ref a_t_cites])), (a_t_cites, .inl (cJ, n_t_cites, .inr (.inl o_t_cites))), (a_t_filled, .inl (cZ, n_t_filled, .inl o_t_filled)), (a_t_notes, .inl (cI, n_t_notes, .inl o_t_notes)), (a_t_sizes, .inl (cI, n_t_sizes, .inl o_t_sizes)), (a_q2, .inr (0, [.ref a_q2_sizes, .ref a_q2_cites, .int v_q2_notes, .int v_q2_version])), (a_q2_cites, .inl (cJ, 32, .inr (.inl r_q2_cites))), (a_q2_sizes, .inl (cI, 8, .inl r_q2_sizes))]) (by decide) rfl (Nat.le_of_ble_eq_true rfl) ?_
  intro p e s m args below meth c A ls H locs Qm hQ hx hb hr hlocks hml hown hts hK hP hD hA hS hl
  have hl : lv_has ls 3 [(0, .ref a_t), (1, .int p1), (2, .ref a_q2)] := hl
  have hinX3 : ∀ w ∈ wsX30, w ∈ wsX3_store := by decide +kernel
  have fl_15 := hts (.fieldLink RX3 15 "PointingNotes$Shelf" "places" "I") (by decide +kernel)
  have fl_21 := hts (.fieldLink RX3 21 "PointingNotes$Shelf" "filled" "[Z") (by decide +kernel)
  have fl_25 := hts (.fieldLink RX3 25 "PointingNotes$Shelf" "notes" "[I") (by decide +kernel)
  have fl_29 := hts (.fieldLink RX3 29 "PointingNotes$Shelf" "sizes" "[I") (by decide +kernel)
  have fl_32 := hts (.fieldLink RX3 32 "PointingNotes$Shelf" "cites" "[J") (by decide +kernel)
  rw [f_X3_store] at hf
  refine lv_iload_n hx hb dX3_store_0 rfl (lv_at hl 1 rfl) ?_
  refine lv_if_lt (tgt := 12) hx hb dX3_store_1 (by decide) (fun c1 => ?_) (fun c1 => ?_)
  · have hf := pn_ifp c1 hf
    cases hf
    rw [hQ]
    exact pn_retv hx hb hr hlocks hP hS dX3_store_12
  · have hf := pn_ifn c1 hf
    refine lv_iload_n hx hb dX3_store_4 rfl (lv_at hl 1 rfl) ?_
    refine lv_aload_n hx hb dX3_store_5 rfl (lv_at hl 0 rfl) ?_
    refine va_get (D := D) (ci := 2) (v := .int v_t_places) (C := RX3) (T := TX3) (N := 5) hx hb hts hinX3 hown hK.1 hP 0 rfl rfl 0 (by decide) fl_15 (fun _ h9 => h9) rfl dX3_store_6 ?_
    refine lv_icmp_lt (tgt := 13) hx hb dX3_store_9 (by decide) (fun c2 => ?_) (fun c2 => ?_)
    · have hf := pn_ifp c2 hf
      refine lv_aload_n hx hb dX3_store_13 rfl (lv_at hl 0 rfl) ?_
      refine va_get (D := D) (ci := 2) (v := .ref a_t_filled) (C := RX3) (T := TX3) (N := 5) hx hb hts hinX3 hown hK.1 hP 0 rfl rfl 1 (by decide) fl_21 (fun _ h9 => h9) rfl dX3_store_14 ?_
      refine lv_iload_n hx hb dX3_store_17 rfl (lv_at hl 1 rfl) ?_
      refine lv_iconst (v := (1)) hx hb dX3_store_18 (by decide) ?_
      obtain ⟨hi4, g3, eg3, hf⟩ := pn_wrZ_at hf
      refine pn_stZ hx hb hK.1 hP (hD.addr rfl) hS 2 2 rfl rfl hi4 eg3 dX3_store_19 (fun H locs (hP : va_P D vwCl [(a_t, .inr (2, [.int v_t_places, .ref a_t_filled, .ref a_t_notes, .ref a_t_sizes, .ref a_t_cites])), (a_t_cites, .inl (cJ, n_t_cites, .inr (.inl r_t_cites))), (a_t_filled, .inl (cZ, n_t_filled, .inl g3)), (a_t_notes, .inl (cI, n_t_notes, .inl r_t_notes)), (a_t_sizes, .inl (cI, n_t_sizes, .inl r_t_sizes)), (a_q2, .inr (0, [.ref a_q2_sizes, .ref a_q2_cites, .int v_q2_notes, .int v_q2_version])), (a_q2_cites, .inl (cJ, 32, .inr (.inl r_q2_cites))), (a_q2_sizes, .inl (cI, 8, .inl r_q2_sizes))] H) _ hS => ?_)
      refine lv_aload_n hx hb dX3_store_20 rfl (lv_at hl 0 rfl) ?_
      refine va_get (D := D) (ci := 2) (v := .ref a_t_notes) (C := RX3) (T := TX3) (N := 5) hx hb hts hinX3 hown hK.1 hP 0 rfl rfl 2 (by decide) fl_25 (fun _ h9 => h9) rfl dX3_store_21 ?_
      refine lv_iload_n hx hb dX3_store_24 rfl (lv_at hl 1 rfl) ?_
      refine lv_aload_n hx hb dX3_store_25 rfl (lv_at hl 2 rfl) ?_
      obtain ⟨ru5, hu5, hf⟩ := pn_bd1_at hf
      refine pn_calli [5] (va_runV (As := []) (rest := [.int p1, .ref a_t_notes]) ⟨hx, hb, hml, hown, hts⟩ (c_X1_notes l D cI cJ cZ a_q2 a_q2_sizes a_q2_cites H.size v_q2_version v_q2_notes ru5 hu5) (cwV 0 hts gX3_store_X1_notes rfl rfl rfl hdX1_notes ⟨Nat.le_of_ble_eq_true rfl, Nat.le_of_ble_eq_true rfl⟩) (pn_preV [5] hP (hD.addr rfl) hK rfl rfl (q0 := 5) (ci := 0) rfl rfl) rfl rfl hl.1 rfl (lv_room (Nat.le_of_ble_eq_true rfl)) dX3_store_26 ⟨Nat.zero_le _, Nat.zero_le _⟩) hP (hD.addr rfl) hS hA rfl rfl rfl (fun H locs (hP : va_P D vwCl [(a_t, .inr (2, [.int v_t_places, .ref a_t_filled, .ref a_t_notes, .ref a_t_sizes, .ref a_t_cites])), (a_t_cites, .inl (cJ, n_t_cites, .inr (.inl r_t_cites))), (a_t_filled, .inl (cZ, n_t_filled, .inl g3)), (a_t_notes, .inl (cI, n_t_notes, .inl r_t_notes)), (a_t_sizes, .inl (cI, n_t_sizes, .inl r_t_sizes)), (a_q2, .inr (0, [.ref a_q2_sizes, .ref a_q2_cites, .int v_q2_notes, .int v_q2_version])), (a_q2_cites, .inl (cJ, 32, .inr (.inl r_q2_cites))), (a_q2_sizes, .inl (cI, 8, .inl r_q2_sizes))] H) _ hS => ?_)
      obtain ⟨hi7, g6, eg6, hf⟩ := pn_wrI_at hf
      refine pn_stI hx hb hK.1 hP (hD.addr rfl) hS 3 0 rfl rfl hi7 eg6 dX3_store_29 (fun H locs (hP : va_P D vwCl [(a_t, .inr (2, [.int v_t_places, .ref a_t_filled, .ref a_t_notes, .ref a_t_sizes, .ref a_t_cites])), (a_t_cites, .inl (cJ, n_t_cites, .inr (.inl r_t_cites))), (a_t_filled, .inl (cZ, n_t_filled, .inl g3)), (a_t_notes, .inl (cI, n_t_notes, .inl g6)), (a_t_sizes, .inl (cI, n_t_sizes, .inl r_t_sizes)), (a_q2, .inr (0, [.ref a_q2_sizes, .ref a_q2_cites, .int v_q2_notes, .int v_q2_version])), (a_q2_cites, .inl (cJ, 32, .inr (.inl r_q2_cites))), (a_q2_sizes, .inl (cI, 8, .inl r_q2_sizes))] H) _ hS => ?_)
      refine lv_aload_n hx hb dX3_store_30 rfl (lv_at hl 2 rfl) ?_
      refine lv_aload_n hx hb dX3_store_31 rfl (lv_at hl 0 rfl) ?_
      refine va_get (D := D) (ci := 2) (v := .ref a_t_sizes) (C := RX3) (T := TX3) (N := 5) hx hb hts hinX3 hown hK.1 hP 0 rfl rfl 3 (by decide) fl_29 (fun _ h9 => h9) rfl dX3_store_32 ?_
      refine lv_aload_n hx hb dX3_store_35 rfl (lv_at hl 0 rfl) ?_
      refine va_get (D := D) (ci := 2) (v := .ref a_t_cites) (C := RX3) (T := TX3) (N := 5) hx hb hts hinX3 hown hK.1 hP 0 rfl rfl 4 (by decide) fl_32 (fun _ h9 => h9) rfl dX3_store_36 ?_
      refine lv_iload_n hx hb dX3_store_39 rfl (lv_at hl 1 rfl) ?_
      obtain ⟨r_t_sizes_u8, r_t_cites_u8, hu8, hf⟩ := pn_bd2_at hf
      refine pn_callv [5, 6, 7, 4, 1] (va_runV (As := [.ref a_t_sizes, .ref a_t_cites, .int p1]) (rest := []) ⟨hx, hb, hml, hown, hts⟩ (c_X1_saveTo l D cI cJ cZ a_q2 a_q2_sizes a_q2_cites a_t_sizes a_t_cites H.size v_q2_notes v_q2_version r_q2_cites r_q2_sizes n_t_sizes r_t_sizes n_t_cites r_t_cites p1 r_t_sizes_u8 r_t_cites_u8 hu8) (cwV 3 hts gX3_store_X1_saveTo rfl rfl rfl hdX1_saveTo ⟨Nat.le_of_ble_eq_true rfl, Nat.le_of_ble_eq_true rfl⟩) (pn_preV [5, 6, 7, 4, 1] hP (hD.addr rfl) hK rfl rfl (q0 := 5) (ci := 0) rfl rfl) rfl rfl hl.1 rfl (lv_room (Nat.le_of_ble_eq_true rfl)) dX3_store_40 ⟨Nat.zero_le _, Nat.zero_le _⟩) hP (hD.addr rfl) hS hA rfl rfl rfl (fun H locs (hP : va_P D vwCl [(a_t, .inr (2, [.int v_t_places, .ref a_t_filled, .ref a_t_notes, .ref a_t_sizes, .ref a_t_cites])), (a_t_cites, .inl (cJ, n_t_cites, .inr (.inl r_t_cites_u8))), (a_t_filled, .inl (cZ, n_t_filled, .inl g3)), (a_t_notes, .inl (cI, n_t_notes, .inl g6)), (a_t_sizes, .inl (cI, n_t_sizes, .inl r_t_sizes_u8)), (a_q2, .inr (0, [.ref a_q2_sizes, .ref a_q2_cites, .int v_q2_notes, .int v_q2_version])), (a_q2_cites, .inl (cJ, 32, .inr (.inl r_q2_cites))), (a_q2_sizes, .inl (cI, 8, .inl r_q2_sizes))] H) _ hS => ?_)
      cases hf
      rw [hQ]
      exact pn_retv hx hb hr hlocks hP hS dX3_store_43
    · have hf := pn_ifn c2 hf
      cases hf
      rw [hQ]
      exact pn_retv hx hb hr hlocks hP hS dX3_store_12
def f_X3_fetch (v_t_places : Int32) (n_t_cites : Nat) (r_t_cites : Nat → Int64) (n_t_filled : Nat) (r_t_filled : Nat → Int32) (n_t_notes : Nat) (r_t_notes : Nat → Int32) (n_t_sizes : Nat) (r_t_sizes : Nat → Int32) (v_q2_notes : Int32) (v_q2_version : Int32) (r_q2_cites : Nat → Int64) (r_q2_sizes : Nat → Int32) (p1 : Int32) : Option (Int32 × Int32 × (Nat → Int64) × (Nat → Int32)) :=
  if p1 < 0 then
  some (v_q2_notes, v_q2_version, r_q2_cites, r_q2_sizes)
  else
  if v_t_places ≤ p1 then
  some (v_q2_notes, v_q2_version, r_q2_cites, r_q2_sizes)
  else
  pn_rd n_t_filled r_t_filled p1 fun w3 =>
  if ¬ w3 = 0 then
  pn_rd n_t_notes r_t_notes p1 fun w6 =>
  pn_bd4 (f_X1_loadFrom v_q2_notes v_q2_version r_q2_cites r_q2_sizes n_t_sizes r_t_sizes n_t_cites r_t_cites p1 w6) fun v_q2_notes_u8 v_q2_version_u8 r_q2_cites_u8 r_q2_sizes_u8 =>
  some (v_q2_notes_u8, v_q2_version_u8, r_q2_cites_u8, r_q2_sizes_u8)
  else
  some (v_q2_notes, v_q2_version, r_q2_cites, r_q2_sizes)
set_option maxHeartbeats 4000000 in
set_option maxRecDepth 100000 in
theorem c_X3_fetch (l : Launch) (D : va_G) (cI cJ cZ : ClassId) (a_t a_t_filled a_t_notes a_t_sizes a_t_cites a_q2 a_q2_sizes a_q2_cites : Nat) (sz : Nat) (v_t_places : Int32) (n_t_cites : Nat) (r_t_cites : Nat → Int64) (n_t_filled : Nat) (r_t_filled : Nat → Int32) (n_t_notes : Nat) (r_t_notes : Nat → Int32) (n_t_sizes : Nat) (r_t_sizes : Nat → Int32) (v_q2_notes : Int32) (v_q2_version : Int32) (r_q2_cites : Nat → Int64) (r_q2_sizes : Nat → Int32) (p1 : Int32) (o_q2_notes : Int32) (o_q2_version : Int32) (o_q2_cites : Nat → Int64) (o_q2_sizes : Nat → Int32) (hf : f_X3_fetch v_t_places n_t_cites r_t_cites n_t_filled r_t_filled n_t_notes r_t_notes n_t_sizes r_t_sizes v_q2_notes v_q2_version r_q2_cites r_q2_sizes p1 = some (o_q2_notes, o_q2_version, o_q2_cites, o_q2_sizes)) : Met l yX3_fetch wsX3_fetch { frames := 2, cells := 0, slots := 0, locals := 84 } (pn_Pc D cI cJ cZ [.ref a_t, .int p1, .ref a_q2] [(a_t, .inr (2, [.int v_t_places, .ref a_t_filled, .ref a_t_notes, .ref a_t_sizes, .ref a_t_cites])), (a_t_cites, .inl (cJ, n_t_cites, .inr (.inl r_t_cites))), (a_t_filled, .inl (cZ, n_t_filled, .inl r_t_filled)), (a_t_notes, .inl (cI, n_t_notes, .inl r_t_notes)), (a_t_sizes, .inl (cI, n_t_sizes, .inl r_t_sizes)), (a_q2, .inr (0, [.ref a_q2_sizes, .ref a_q2_cites, .int v_q2_notes, .int v_q2_version])), (a_q2_cites, .inl (cJ, 32, .inr (.inl r_q2_cites))), (a_q2_sizes, .inl (cI, 8, .inl r_q2_sizes))] sz) (pn_Qv D [(a_t, .inr (2, [.int v_t_places, .ref a_t_filled, .ref a_t_notes, .ref a_t_sizes, .ref a_t_cites])), (a_t_cites, .inl (cJ, n_t_cites, .inr (.inl r_t_cites))), (a_t_filled, .inl (cZ, n_t_filled, .inl r_t_filled)), (a_t_notes, .inl (cI, n_t_notes, .inl r_t_notes)), (a_t_sizes, .inl (cI, n_t_sizes, .inl r_t_sizes)), (a_q2, .inr (0, [.ref a_q2_sizes, .ref a_q2_cites, .int o_q2_notes, .int o_q2_version])), (a_q2_cites, .inl (cJ, 32, .inr (.inl o_q2_cites))), (a_q2_sizes, .inl (cI, 8, .inl o_q2_sizes))] (va_A [(a_t, .inr (2, [.int v_t_places, .ref a_t_filled, .ref a_t_notes, .ref a_t_sizes, .ref a_t_cites])), (a_t_cites, .inl (cJ, n_t_cites, .inr (.inl r_t_cites))), (a_t_filled, .inl (cZ, n_t_filled, .inl r_t_filled)), (a_t_notes, .inl (cI, n_t_notes, .inl r_t_notes)), (a_t_sizes, .inl (cI, n_t_sizes, .inl r_t_sizes)), (a_q2, .inr (0, [.ref a_q2_sizes, .ref a_q2_cites, .int v_q2_notes, .int v_q2_version])), (a_q2_cites, .inl (cJ, 32, .inr (.inl r_q2_cites))), (a_q2_sizes, .inl (cI, 8, .inl r_q2_sizes))] sz)) 0 0 (va_A [(a_t, .inr (2, [.int v_t_places, .ref a_t_filled, .ref a_t_notes, .ref a_t_sizes, .ref a_t_cites])), (a_t_cites, .inl (cJ, n_t_cites, .inr (.inl r_t_cites))), (a_t_filled, .inl (cZ, n_t_filled, .inl r_t_filled)), (a_t_notes, .inl (cI, n_t_notes, .inl r_t_notes)), (a_t_sizes, .inl (cI, n_t_sizes, .inl r_t_sizes)), (a_q2, .inr (0, [.ref a_q2_sizes, .ref a_q2_cites, .int v_q2_notes, .int v_q2_version])), (a_q2_cites, .inl (cJ, 32, .inr (.inl r_q2_cites))), (a_q2_sizes, .inl (cI, 8, .inl r_q2_sizes))] sz) := by
  refine pn_entry (cc := cX3_fetch) (maxL := 3) (ret := none) (Qf := pn_Qv D [(a_t, .inr (2, [.int v_t_places, .ref a_t_filled, .ref a_t_notes, .ref a_t_sizes, .ref a_t_cites])), (a_t_cites, .inl (cJ, n_t_cites, .inr (.inl r_t_cites))), (a_t_filled, .inl (cZ, n_t_filled, .inl r_t_filled)), (a_t_notes, .inl (cI, n_t_notes, .inl r_t_notes)), (a_t_sizes, .inl (cI, n_t_sizes, .inl r_t_sizes)), (a_q2, .inr (0, [.ref a_q2_sizes, .ref a_q2_cites, .int o_q2_notes, .int o_q2_version])), (a_q2_cites, .inl (cJ, 32, .inr (.inl o_q2_cites))), (a_q2_sizes, .inl (cI, 8, .inl o_q2_sizes))]) (by decide) rfl (Nat.le_of_ble_eq_true rfl) ?_
  intro p e s m args below meth c A ls H locs Qm hQ hx hb hr hlocks hml hown hts hK hP hD hA hS hl
  have hl : lv_has ls 3 [(0, .ref a_t), (1, .int p1), (2, .ref a_q2)] := hl
  have hinX3 : ∀ w ∈ wsX30, w ∈ wsX3_fetch := by decide +kernel
  have fl_15 := hts (.fieldLink RX3 15 "PointingNotes$Shelf" "places" "I") (by decide +kernel)
  have fl_21 := hts (.fieldLink RX3 21 "PointingNotes$Shelf" "filled" "[Z") (by decide +kernel)
  have fl_25 := hts (.fieldLink RX3 25 "PointingNotes$Shelf" "notes" "[I") (by decide +kernel)
  have fl_29 := hts (.fieldLink RX3 29 "PointingNotes$Shelf" "sizes" "[I") (by decide +kernel)
  have fl_32 := hts (.fieldLink RX3 32 "PointingNotes$Shelf" "cites" "[J") (by decide +kernel)
  rw [f_X3_fetch] at hf
  refine lv_iload_n hx hb dX3_fetch_0 rfl (lv_at hl 1 rfl) ?_
  refine lv_if_lt (tgt := 21) hx hb dX3_fetch_1 (by decide) (fun c1 => ?_) (fun c1 => ?_)
  · have hf := pn_ifp c1 hf
    cases hf
    rw [hQ]
    exact pn_retv hx hb hr hlocks hP hS dX3_fetch_21
  · have hf := pn_ifn c1 hf
    refine lv_iload_n hx hb dX3_fetch_4 rfl (lv_at hl 1 rfl) ?_
    refine lv_aload_n hx hb dX3_fetch_5 rfl (lv_at hl 0 rfl) ?_
    refine va_get (D := D) (ci := 2) (v := .int v_t_places) (C := RX3) (T := TX3) (N := 5) hx hb hts hinX3 hown hK.1 hP 0 rfl rfl 0 (by decide) fl_15 (fun _ h9 => h9) rfl dX3_fetch_6 ?_
    refine lv_icmp_ge (tgt := 21) hx hb dX3_fetch_9 (by decide) (fun c2 => ?_) (fun c2 => ?_)
    · have hf := pn_ifp c2 hf
      cases hf
      rw [hQ]
      exact pn_retv hx hb hr hlocks hP hS dX3_fetch_21
    · have hf := pn_ifn c2 hf
      refine lv_aload_n hx hb dX3_fetch_12 rfl (lv_at hl 0 rfl) ?_
      refine va_get (D := D) (ci := 2) (v := .ref a_t_filled) (C := RX3) (T := TX3) (N := 5) hx hb hts hinX3 hown hK.1 hP 0 rfl rfl 1 (by decide) fl_21 (fun _ h9 => h9) rfl dX3_fetch_13 ?_
      refine lv_iload_n hx hb dX3_fetch_16 rfl (lv_at hl 1 rfl) ?_
      obtain ⟨hi4, w3, ew3, hf⟩ := pn_rd_at hf
      refine pn_ldZ hx hb hK.1 hP 2 2 rfl rfl hi4 ew3 dX3_fetch_17 ?_
      refine lv_if_ne (tgt := 22) hx hb dX3_fetch_18 (by decide) (fun c5 => ?_) (fun c5 => ?_)
      · have hf := pn_ifp c5 hf
        refine lv_aload_n hx hb dX3_fetch_22 rfl (lv_at hl 2 rfl) ?_
        refine lv_aload_n hx hb dX3_fetch_23 rfl (lv_at hl 0 rfl) ?_
        refine va_get (D := D) (ci := 2) (v := .ref a_t_sizes) (C := RX3) (T := TX3) (N := 5) hx hb hts hinX3 hown hK.1 hP 0 rfl rfl 3 (by decide) fl_29 (fun _ h9 => h9) rfl dX3_fetch_24 ?_
        refine lv_aload_n hx hb dX3_fetch_27 rfl (lv_at hl 0 rfl) ?_
        refine va_get (D := D) (ci := 2) (v := .ref a_t_cites) (C := RX3) (T := TX3) (N := 5) hx hb hts hinX3 hown hK.1 hP 0 rfl rfl 4 (by decide) fl_32 (fun _ h9 => h9) rfl dX3_fetch_28 ?_
        refine lv_iload_n hx hb dX3_fetch_31 rfl (lv_at hl 1 rfl) ?_
        refine lv_aload_n hx hb dX3_fetch_32 rfl (lv_at hl 0 rfl) ?_
        refine va_get (D := D) (ci := 2) (v := .ref a_t_notes) (C := RX3) (T := TX3) (N := 5) hx hb hts hinX3 hown hK.1 hP 0 rfl rfl 2 (by decide) fl_25 (fun _ h9 => h9) rfl dX3_fetch_33 ?_
        refine lv_iload_n hx hb dX3_fetch_36 rfl (lv_at hl 1 rfl) ?_
        obtain ⟨hi7, w6, ew6, hf⟩ := pn_rd_at hf
        refine pn_ldI hx hb hK.1 hP 3 0 rfl rfl hi7 ew6 dX3_fetch_37 ?_
        obtain ⟨v_q2_notes_u8, v_q2_version_u8, r_q2_cites_u8, r_q2_sizes_u8, hu8, hf⟩ := pn_bd4_at hf
        refine pn_callv [5, 6, 7, 4, 1] (va_runV (As := [.ref a_t_sizes, .ref a_t_cites, .int p1, .int w6]) (rest := []) ⟨hx, hb, hml, hown, hts⟩ (c_X1_loadFrom l D cI cJ cZ a_q2 a_q2_sizes a_q2_cites a_t_sizes a_t_cites H.size v_q2_notes v_q2_version r_q2_cites r_q2_sizes n_t_sizes r_t_sizes n_t_cites r_t_cites p1 w6 v_q2_notes_u8 v_q2_version_u8 r_q2_cites_u8 r_q2_sizes_u8 hu8) (cwV 4 hts gX3_fetch_X1_loadFrom rfl rfl rfl hdX1_loadFrom ⟨Nat.le_of_ble_eq_true rfl, Nat.le_of_ble_eq_true rfl⟩) (pn_preV [5, 6, 7, 4, 1] hP (hD.addr rfl) hK rfl rfl (q0 := 5) (ci := 0) rfl rfl) rfl rfl hl.1 rfl (lv_room (Nat.le_of_ble_eq_true rfl)) dX3_fetch_38 ⟨Nat.zero_le _, Nat.zero_le _⟩) hP (hD.addr rfl) hS hA rfl rfl rfl (fun H locs (hP : va_P D vwCl [(a_t, .inr (2, [.int v_t_places, .ref a_t_filled, .ref a_t_notes, .ref a_t_sizes, .ref a_t_cites])), (a_t_cites, .inl (cJ, n_t_cites, .inr (.inl r_t_cites))), (a_t_filled, .inl (cZ, n_t_filled, .inl r_t_filled)), (a_t_notes, .inl (cI, n_t_notes, .inl r_t_notes)), (a_t_sizes, .inl (cI, n_t_sizes, .inl r_t_sizes)), (a_q2, .inr (0, [.ref a_q2_sizes, .ref a_q2_cites, .int v_q2_notes_u8, .int v_q2_version_u8])), (a_q2_cites, .inl (cJ, 32, .inr (.inl r_q2_cites_u8))), (a_q2_sizes, .inl (cI, 8, .inl r_q2_sizes_u8))] H) _ hS => ?_)
        cases hf
        rw [hQ]
        exact pn_retv hx hb hr hlocks hP hS dX3_fetch_41
      · have hf := pn_ifq c5 hf
        cases hf
        rw [hQ]
        exact pn_retv hx hb hr hlocks hP hS dX3_fetch_21
