theorem hdX4_shortestSpelling : yX4_shortestSpelling.cls = RX4 ∧ yX4_shortestSpelling.cls ≠ "java/lang/invoke/MethodHandle" ∧ yX4_shortestSpelling.cls ≠ "java/lang/invoke/VarHandle" ∧ (parseMethodDescriptor yX4_shortestSpelling.desc).map (fun d => d.parameters.length) = some 1 := by decide +kernel
theorem hdX4_shortened : yX4_shortened.cls = RX4 ∧ yX4_shortened.cls ≠ "java/lang/invoke/MethodHandle" ∧ yX4_shortened.cls ≠ "java/lang/invoke/VarHandle" ∧ (parseMethodDescriptor yX4_shortened.desc).map (fun d => d.parameters.length) = some 1 := by decide +kernel
theorem hdX4_performShortening : yX4_performShortening.cls = RX4 ∧ yX4_performShortening.cls ≠ "java/lang/invoke/MethodHandle" ∧ yX4_performShortening.cls ≠ "java/lang/invoke/VarHandle" ∧ (parseMethodDescriptor yX4_performShortening.desc).map (fun d => d.parameters.length) = some 2 := by decide +kernel
theorem hdX4_performCut : yX4_performCut.cls = RX4 ∧ yX4_performCut.cls ≠ "java/lang/invoke/MethodHandle" ∧ yX4_performCut.cls ≠ "java/lang/invoke/VarHandle" ∧ (parseMethodDescriptor yX4_performCut.desc).map (fun d => d.parameters.length) = some 3 := by decide +kernel
theorem hdX4_performMove : yX4_performMove.cls = RX4 ∧ yX4_performMove.cls ≠ "java/lang/invoke/MethodHandle" ∧ yX4_performMove.cls ≠ "java/lang/invoke/VarHandle" ∧ (parseMethodDescriptor yX4_performMove.desc).map (fun d => d.parameters.length) = some 3 := by decide +kernel
theorem hdX4_perform : yX4_perform.cls = RX4 ∧ yX4_perform.cls ≠ "java/lang/invoke/MethodHandle" ∧ yX4_perform.cls ≠ "java/lang/invoke/VarHandle" ∧ (parseMethodDescriptor yX4_perform.desc).map (fun d => d.parameters.length) = some 1 := by decide +kernel
def lp_X4_shortestSpelling_83 (r_t_foundBy : Nat → Int32) (r_t_namedBy : Nat → Int32) (x3 : Int32) (x5 : Int32) (x6 : Int32) : Nat → Int32 → Option (Int32 ⊕ Unit)
  | 0, _ => none
  | n + 1, x7 =>
    if x3 ≤ x7 then
  some (.inr ())
  else
  pn_bd1 (f_X4_foundByNote r_t_foundBy x7) fun ru2 =>
  pn_bd1 (f_X4_namedWith r_t_namedBy x5) fun ru3 =>
  if ¬ (ru2 &&& ru3) = x6 then
  pn_nm (x7 + (1 : Int32)) fun z5 =>
  lp_X4_shortestSpelling_83 r_t_foundBy r_t_namedBy x3 x5 x6 n z5
  else
  some (.inl x7)
def j_X4_shortestSpelling_42 (N : Nat) (v_t_cases : Int32) (r_t_firstSlot : Nat → Int32) (r_t_foundBy : Nat → Int32) (r_t_namedBy : Nat → Int32) (r_t_paper_cites : Nat → Int64) (p1 : Int32) (x2 : Int32) (x3 : Int32) : Option (Int64) :=
  pn_bd1 (f_X4_firstCite v_t_cases r_t_firstSlot r_t_paper_cites x2) fun ru6 =>
  pn_bd1 (f_X0_first ru6) fun ru7 =>
  pn_nm ((1 : Int32) <<< (x2 &&& 31)) fun z8 =>
  pn_bd1 (f_X4_namedWith r_t_namedBy ru7) fun ru9 =>
  pn_bd1 (f_X4_citedBefore N v_t_cases r_t_firstSlot p1) fun ru10 =>
  if ¬ (ru9 &&& ru10) = z8 then
  pn_bd1 (lp_X4_shortestSpelling_83 r_t_foundBy r_t_namedBy x3 ru7 z8 N (0 : Int32)) (fun X83 => pn_s2 X83 (pn_u1 fun x7_w12 => pn_bd1 (f_X0_makeAbove x7_w12 ru7) fun ru13 =>
  some ru13) (fun Y83_0 => (pn_u0 (pn_bd1 (f_X4_firstCite v_t_cases r_t_firstSlot r_t_paper_cites x2) fun ru15 =>
  some ru15)) Y83_0))
  else
  pn_bd1 (f_X0_makeShort ru7) fun ru16 =>
  some ru16
def f_X4_shortestSpelling (N : Nat) (v_t_cases : Int32) (r_t_caseAt : Nat → Int32) (r_t_firstSlot : Nat → Int32) (r_t_foundBy : Nat → Int32) (r_t_namedBy : Nat → Int32) (v_t_paper_notes : Int32) (r_t_paper_cites : Nat → Int64) (r_t_paper_sizes : Nat → Int32) (p1 : Int32) : Option (Int64) :=
  pn_bd1 (f_X4_caseOf r_t_caseAt p1) fun ru17 =>
  pn_nm (p1 / (4 : Int32)) fun z18 =>
  pn_bd1 (f_X4_pointedAt v_t_paper_notes r_t_paper_sizes z18 (p1 - p1 / (4 : Int32) * (4 : Int32)) (z18 - (1 : Int32))) fun ru19 =>
  if ru19 < 0 then
  j_X4_shortestSpelling_42 N v_t_cases r_t_firstSlot r_t_foundBy r_t_namedBy r_t_paper_cites p1 ru17 z18
  else
  pn_bd1 (f_X4_caseOf r_t_caseAt ru19) fun ru21 =>
  if ¬ ru21 = ru17 then
  j_X4_shortestSpelling_42 N v_t_cases r_t_firstSlot r_t_foundBy r_t_namedBy r_t_paper_cites p1 ru17 z18
  else
  pn_bd1 (f_X0_makeSame ) fun ru23 =>
  some ru23
set_option maxHeartbeats 4000000 in
set_option maxRecDepth 100000 in
theorem c_X4_shortestSpelling (l : Launch) (D : va_G) (cI cJ cZ : ClassId) (a_t a_t_paper a_t_linked a_t_caseAt a_t_reasonAt a_t_firstSlot a_t_members a_t_namedBy a_t_foundBy a_t_paper_sizes a_t_paper_cites : Nat) (sz : Nat) (v_t_linkedVersion : Int32) (v_t_studiedVersion : Int32) (v_t_present : Int32) (v_t_fulls : Int32) (v_t_cited : Int32) (v_t_alive : Int32) (v_t_dead : Int32) (v_t_paper_version : Int32) (N : Nat) (v_t_cases : Int32) (r_t_caseAt : Nat → Int32) (r_t_firstSlot : Nat → Int32) (r_t_foundBy : Nat → Int32) (r_t_namedBy : Nat → Int32) (v_t_paper_notes : Int32) (r_t_paper_cites : Nat → Int64) (r_t_paper_sizes : Nat → Int32) (p1 : Int32) (rR : Int64) (hf : f_X4_shortestSpelling N v_t_cases r_t_caseAt r_t_firstSlot r_t_foundBy r_t_namedBy v_t_paper_notes r_t_paper_cites r_t_paper_sizes p1 = some rR) : Met l yX4_shortestSpelling wsX4_shortestSpelling { frames := 2, cells := 0, slots := 0, locals := 44 } (pn_Pc D cI cJ cZ [.ref a_t, .int p1] [(a_t, .inr (3, [.ref a_t_paper, .ref a_t_linked, .ref a_t_caseAt, .ref a_t_reasonAt, .ref a_t_firstSlot, .ref a_t_members, .ref a_t_namedBy, .ref a_t_foundBy, .int v_t_linkedVersion, .int v_t_studiedVersion, .int v_t_present, .int v_t_fulls, .int v_t_cases, .int v_t_cited, .int v_t_alive, .int v_t_dead])), (a_t_caseAt, .inl (cI, 32, .inl r_t_caseAt)), (a_t_firstSlot, .inl (cI, 32, .inl r_t_firstSlot)), (a_t_foundBy, .inl (cI, 8, .inl r_t_foundBy)), (a_t_namedBy, .inl (cI, 6, .inl r_t_namedBy)), (a_t_paper, .inr (0, [.ref a_t_paper_sizes, .ref a_t_paper_cites, .int v_t_paper_notes, .int v_t_paper_version])), (a_t_paper_cites, .inl (cJ, 32, .inr (.inl r_t_paper_cites))), (a_t_paper_sizes, .inl (cI, 8, .inl r_t_paper_sizes))] sz) (pn_Ql D rR [(a_t, .inr (3, [.ref a_t_paper, .ref a_t_linked, .ref a_t_caseAt, .ref a_t_reasonAt, .ref a_t_firstSlot, .ref a_t_members, .ref a_t_namedBy, .ref a_t_foundBy, .int v_t_linkedVersion, .int v_t_studiedVersion, .int v_t_present, .int v_t_fulls, .int v_t_cases, .int v_t_cited, .int v_t_alive, .int v_t_dead])), (a_t_caseAt, .inl (cI, 32, .inl r_t_caseAt)), (a_t_firstSlot, .inl (cI, 32, .inl r_t_firstSlot)), (a_t_foundBy, .inl (cI, 8, .inl r_t_foundBy)), (a_t_namedBy, .inl (cI, 6, .inl r_t_namedBy)), (a_t_paper, .inr (0, [.ref a_t_paper_sizes, .ref a_t_paper_cites, .int v_t_paper_notes, .int v_t_paper_version])), (a_t_paper_cites, .inl (cJ, 32, .inr (.inl r_t_paper_cites))), (a_t_paper_sizes, .inl (cI, 8, .inl r_t_paper_sizes))] (va_A [(a_t, .inr (3, [.ref a_t_paper, .ref a_t_linked, .ref a_t_caseAt, .ref a_t_reasonAt, .ref a_t_firstSlot, .ref a_t_members, .ref a_t_namedBy, .ref a_t_foundBy, .int v_t_linkedVersion, .int v_t_studiedVersion, .int v_t_present, .int v_t_fulls, .int v_t_cases, .int v_t_cited, .int v_t_alive, .int v_t_dead])), (a_t_caseAt, .inl (cI, 32, .inl r_t_caseAt)), (a_t_firstSlot, .inl (cI, 32, .inl r_t_firstSlot)), (a_t_foundBy, .inl (cI, 8, .inl r_t_foundBy)), (a_t_namedBy, .inl (cI, 6, .inl r_t_namedBy)), (a_t_paper, .inr (0, [.ref a_t_paper_sizes, .ref a_t_paper_cites, .int v_t_paper_notes, .int v_t_paper_version])), (a_t_paper_cites, .inl (cJ, 32, .inr (.inl r_t_paper_cites))), (a_t_paper_sizes, .inl (cI, 8, .inl r_t_paper_sizes))] sz)) 0 0 (va_A [(a_t, .inr (3, [.ref a_t_paper, .ref a_t_linked, .ref a_t_caseAt, .ref a_t_reasonAt, .ref a_t_firstSlot, .ref a_t_members, .ref a_t_namedBy, .ref a_t_foundBy, .int v_t_linkedVersion, .int v_t_studiedVersion, .int v_t_present, .int v_t_fulls, .int v_t_cases, .int v_t_cited, .int v_t_alive, .int v_t_dead])), (a_t_caseAt, .inl (cI, 32, .inl r_t_caseAt)), (a_t_firstSlot, .inl (cI, 32, .inl r_t_firstSlot)), (a_t_foundBy, .inl (cI, 8, .inl r_t_foundBy)), (a_t_namedBy, .inl (cI, 6, .inl r_t_namedBy)), (a_t_paper, .inr (0, [.ref a_t_paper_sizes, .ref a_t_paper_cites, .int v_t_paper_notes, .int v_t_paper_version])), (a_t_paper_cites, .inl (cJ, 32, .inr (.inl r_t_paper_cites))), (a_t_paper_sizes, .inl (cI, 8, .inl r_t_paper_sizes))] sz) := by
  refine pn_entry (cc := cX4_shortestSpelling) (maxL := 8) (ret := (some .long)) (Qf := pn_Ql D rR [(a_t, .inr (3, [.ref a_t_paper, .ref a_t_linked, .ref a_t_caseAt, .ref a_t_reasonAt, .ref a_t_firstSlot, .ref a_t_members, .ref a_t_namedBy, .ref a_t_foundBy, .int v_t_linkedVersion, .int v_t_studiedVersion, .int v_t_present, .int v_t_fulls, .int v_t_cases, .int v_t_cited, .int v_t_alive, .int v_t_dead])), (a_t_caseAt, .inl (cI, 32, .inl r_t_caseAt)), (a_t_firstSlot, .inl (cI, 32, .inl r_t_firstSlot)), (a_t_foundBy, .inl (cI, 8, .inl r_t_foundBy)), (a_t_namedBy, .inl (cI, 6, .inl r_t_namedBy)), (a_t_paper, .inr (0, [.ref a_t_paper_sizes, .ref a_t_paper_cites, .int v_t_paper_notes, .int v_t_paper_version])), (a_t_paper_cites, .inl (cJ, 32, .inr (.inl r_t_paper_cites))), (a_t_paper_sizes, .inl (cI, 8, .inl r_t_paper_sizes))]) (by decide) rfl (Nat.le_of_ble_eq_true rfl) ?_
  intro p e s m args below meth c A ls H locs Qm hQ hx hb hr hlocks hml hown hts hK hP hD hA hS hl
  have hl : lv_has ls 8 [(0, .ref a_t), (1, .int p1)] := hl
  rw [f_X4_shortestSpelling] at hf
  have lp83 : ∀ (n : Nat) (x2 : Int32) (x3 : Int32) (x5 : Int32) (x6 : Int32) (x7 : Int32) (X : Int32 ⊕ Unit) (H : Heap) (locs : List Loc) (ls : Array Slot), lp_X4_shortestSpelling_83 r_t_foundBy r_t_namedBy x3 x5 x6 n x7 = some X → va_P D vwCl [(a_t, .inr (3, [.ref a_t_paper, .ref a_t_linked, .ref a_t_caseAt, .ref a_t_reasonAt, .ref a_t_firstSlot, .ref a_t_members, .ref a_t_namedBy, .ref a_t_foundBy, .int v_t_linkedVersion, .int v_t_studiedVersion, .int v_t_present, .int v_t_fulls, .int v_t_cases, .int v_t_cited, .int v_t_alive, .int v_t_dead])), (a_t_caseAt, .inl (cI, 32, .inl r_t_caseAt)), (a_t_firstSlot, .inl (cI, 32, .inl r_t_firstSlot)), (a_t_foundBy, .inl (cI, 8, .inl r_t_foundBy)), (a_t_namedBy, .inl (cI, 6, .inl r_t_namedBy)), (a_t_paper, .inr (0, [.ref a_t_paper_sizes, .ref a_t_paper_cites, .int v_t_paper_notes, .int v_t_paper_version])), (a_t_paper_cites, .inl (cJ, 32, .inr (.inl r_t_paper_cites))), (a_t_paper_sizes, .inl (cI, 8, .inl r_t_paper_sizes))] H → va_S A s.heap H locs → lv_has ls 8 [(0, .ref a_t), (2, .int x2), (3, .int x3), (5, .int x5), (6, .int x6), (7, .int x7)] → (∀ (y7 : Int32)  (H : Heap) (locs : List Loc) (ls : Array Slot), X = .inl y7 → va_P D vwCl [(a_t, .inr (3, [.ref a_t_paper, .ref a_t_linked, .ref a_t_caseAt, .ref a_t_reasonAt, .ref a_t_firstSlot, .ref a_t_members, .ref a_t_namedBy, .ref a_t_foundBy, .int v_t_linkedVersion, .int v_t_studiedVersion, .int v_t_present, .int v_t_fulls, .int v_t_cases, .int v_t_cited, .int v_t_alive, .int v_t_dead])), (a_t_caseAt, .inl (cI, 32, .inl r_t_caseAt)), (a_t_firstSlot, .inl (cI, 32, .inl r_t_firstSlot)), (a_t_foundBy, .inl (cI, 8, .inl r_t_foundBy)), (a_t_namedBy, .inl (cI, 6, .inl r_t_namedBy)), (a_t_paper, .inr (0, [.ref a_t_paper_sizes, .ref a_t_paper_cites, .int v_t_paper_notes, .int v_t_paper_version])), (a_t_paper_cites, .inl (cJ, 32, .inr (.inl r_t_paper_cites))), (a_t_paper_sizes, .inl (cI, 8, .inl r_t_paper_sizes))] H → va_S A s.heap H locs → lv_has ls 8 [(5, .int x5), (7, .int y7)] → W p l e { frames := 2, cells := 0, slots := 0, locals := 44 } s m args below meth c H locs 0 0 Qm (F0 m 107 ls [])) → (∀   (H : Heap) (locs : List Loc) (ls : Array Slot), X = .inr () → va_P D vwCl [(a_t, .inr (3, [.ref a_t_paper, .ref a_t_linked, .ref a_t_caseAt, .ref a_t_reasonAt, .ref a_t_firstSlot, .ref a_t_members, .ref a_t_namedBy, .ref a_t_foundBy, .int v_t_linkedVersion, .int v_t_studiedVersion, .int v_t_present, .int v_t_fulls, .int v_t_cases, .int v_t_cited, .int v_t_alive, .int v_t_dead])), (a_t_caseAt, .inl (cI, 32, .inl r_t_caseAt)), (a_t_firstSlot, .inl (cI, 32, .inl r_t_firstSlot)), (a_t_foundBy, .inl (cI, 8, .inl r_t_foundBy)), (a_t_namedBy, .inl (cI, 6, .inl r_t_namedBy)), (a_t_paper, .inr (0, [.ref a_t_paper_sizes, .ref a_t_paper_cites, .int v_t_paper_notes, .int v_t_paper_version])), (a_t_paper_cites, .inl (cJ, 32, .inr (.inl r_t_paper_cites))), (a_t_paper_sizes, .inl (cI, 8, .inl r_t_paper_sizes))] H → va_S A s.heap H locs → lv_has ls 8 [(0, .ref a_t), (2, .int x2)] → W p l e { frames := 2, cells := 0, slots := 0, locals := 44 } s m args below meth c H locs 0 0 Qm (F0 m 121 ls [])) → W p l e { frames := 2, cells := 0, slots := 0, locals := 44 } s m args below meth c H locs 0 0 Qm (F0 m 83 ls []) := by
    intro n
    induction n with
    | zero => intro x2 x3 x5 x6 x7 X H locs ls hf; cases hf
    | succ n ih =>
      intro x2 x3 x5 x6 x7 X H locs ls hf hP hS hl kx107 kx121
      rw [lp_X4_shortestSpelling_83] at hf
      refine lv_iload hx hb dX4_shortestSpelling_83 (lv_at hl 5 rfl) ?_
      refine lv_iload_n hx hb dX4_shortestSpelling_85 rfl (lv_at hl 2 rfl) ?_
      refine lv_icmp_ge (tgt := 121) hx hb dX4_shortestSpelling_86 (by decide) (fun c1 => ?_) (fun c1 => ?_)
      · have hf := pn_ifp c1 hf
        exact kx121  H locs ls (Option.some.inj hf).symm hP hS (lv_sub hl [0, 1] rfl)
      · have hf := pn_ifn c1 hf
        refine lv_aload_n hx hb dX4_shortestSpelling_89 rfl (lv_at hl 0 rfl) ?_
        refine lv_iload hx hb dX4_shortestSpelling_90 (lv_at hl 5 rfl) ?_
        obtain ⟨ru2, hu2, hf⟩ := pn_bd1_at hf
        refine pn_calli [0, 3] (va_runV (As := [.int x7]) (rest := []) ⟨hx, hb, hml, hown, hts⟩ (c_X4_foundByNote l D cI cJ cZ a_t a_t_paper a_t_linked a_t_caseAt a_t_reasonAt a_t_firstSlot a_t_members a_t_namedBy a_t_foundBy H.size v_t_linkedVersion v_t_studiedVersion v_t_present v_t_fulls v_t_cases v_t_cited v_t_alive v_t_dead r_t_foundBy x7 ru2 hu2) (cwV 1 hts gX4_shortestSpelling_X4_foundByNote rfl rfl rfl hdX4_foundByNote ⟨Nat.le_of_ble_eq_true rfl, Nat.le_of_ble_eq_true rfl⟩) (pn_preV [0, 3] hP (hD.addr rfl) hK rfl rfl (q0 := 0) (ci := 3) rfl rfl) rfl rfl hl.1 rfl (lv_room (Nat.le_of_ble_eq_true rfl)) dX4_shortestSpelling_92 ⟨Nat.zero_le _, Nat.zero_le _⟩) hP (hD.addr rfl) hS hA rfl rfl rfl (fun H locs (hP : va_P D vwCl [(a_t, .inr (3, [.ref a_t_paper, .ref a_t_linked, .ref a_t_caseAt, .ref a_t_reasonAt, .ref a_t_firstSlot, .ref a_t_members, .ref a_t_namedBy, .ref a_t_foundBy, .int v_t_linkedVersion, .int v_t_studiedVersion, .int v_t_present, .int v_t_fulls, .int v_t_cases, .int v_t_cited, .int v_t_alive, .int v_t_dead])), (a_t_caseAt, .inl (cI, 32, .inl r_t_caseAt)), (a_t_firstSlot, .inl (cI, 32, .inl r_t_firstSlot)), (a_t_foundBy, .inl (cI, 8, .inl r_t_foundBy)), (a_t_namedBy, .inl (cI, 6, .inl r_t_namedBy)), (a_t_paper, .inr (0, [.ref a_t_paper_sizes, .ref a_t_paper_cites, .int v_t_paper_notes, .int v_t_paper_version])), (a_t_paper_cites, .inl (cJ, 32, .inr (.inl r_t_paper_cites))), (a_t_paper_sizes, .inl (cI, 8, .inl r_t_paper_sizes))] H) _ hS => ?_)
        refine lv_aload_n hx hb dX4_shortestSpelling_95 rfl (lv_at hl 0 rfl) ?_
        refine lv_iload hx hb dX4_shortestSpelling_96 (lv_at hl 3 rfl) ?_
        obtain ⟨ru3, hu3, hf⟩ := pn_bd1_at hf
        refine pn_calli [0, 4] (va_runV (As := [.int x5]) (rest := [.int ru2]) ⟨hx, hb, hml, hown, hts⟩ (c_X4_namedWith l D cI cJ cZ a_t a_t_paper a_t_linked a_t_caseAt a_t_reasonAt a_t_firstSlot a_t_members a_t_namedBy a_t_foundBy H.size v_t_linkedVersion v_t_studiedVersion v_t_present v_t_fulls v_t_cases v_t_cited v_t_alive v_t_dead r_t_namedBy x5 ru3 hu3) (cwV 1 hts gX4_shortestSpelling_X4_namedWith rfl rfl rfl hdX4_namedWith ⟨Nat.le_of_ble_eq_true rfl, Nat.le_of_ble_eq_true rfl⟩) (pn_preV [0, 4] hP (hD.addr rfl) hK rfl rfl (q0 := 0) (ci := 3) rfl rfl) rfl rfl hl.1 rfl (lv_room (Nat.le_of_ble_eq_true rfl)) dX4_shortestSpelling_98 ⟨Nat.zero_le _, Nat.zero_le _⟩) hP (hD.addr rfl) hS hA rfl rfl rfl (fun H locs (hP : va_P D vwCl [(a_t, .inr (3, [.ref a_t_paper, .ref a_t_linked, .ref a_t_caseAt, .ref a_t_reasonAt, .ref a_t_firstSlot, .ref a_t_members, .ref a_t_namedBy, .ref a_t_foundBy, .int v_t_linkedVersion, .int v_t_studiedVersion, .int v_t_present, .int v_t_fulls, .int v_t_cases, .int v_t_cited, .int v_t_alive, .int v_t_dead])), (a_t_caseAt, .inl (cI, 32, .inl r_t_caseAt)), (a_t_firstSlot, .inl (cI, 32, .inl r_t_firstSlot)), (a_t_foundBy, .inl (cI, 8, .inl r_t_foundBy)), (a_t_namedBy, .inl (cI, 6, .inl r_t_namedBy)), (a_t_paper, .inr (0, [.ref a_t_paper_sizes, .ref a_t_paper_cites, .int v_t_paper_notes, .int v_t_paper_version])), (a_t_paper_cites, .inl (cJ, 32, .inr (.inl r_t_paper_cites))), (a_t_paper_sizes, .inl (cI, 8, .inl r_t_paper_sizes))] H) _ hS => ?_)
        refine lv_iand hx hb dX4_shortestSpelling_101 ?_
        refine lv_iload hx hb dX4_shortestSpelling_102 (lv_at hl 4 rfl) ?_
        refine lv_icmp_ne (tgt := 115) hx hb dX4_shortestSpelling_104 (by decide) (fun c4 => ?_) (fun c4 => ?_)
        · have hf := pn_ifp c4 hf
          obtain ⟨z5, ez5⟩ : ∃ y : Int32, y = x7 + (1) := ⟨_, rfl⟩
          have hf := pn_nm_at ez5 hf
          refine lv_iinc (v := z5) (lv' := [(7, .int z5), (0, .ref a_t), (2, .int x2), (3, .int x3), (5, .int x5), (6, .int x6)]) hx hb dX4_shortestSpelling_115 hl (k := 5) rfl (by rw [ez5]; rfl) (by decide) rfl (fun ls hl => ?_)
          refine lv_goto (tgt := 83) hx hb dX4_shortestSpelling_118 (by decide) ?_
          exact ih x2 x3 x5 x6 z5 X H locs ls hf hP hS (lv_sub hl [1, 2, 3, 4, 5, 0] rfl) kx107 kx121
        · have hf := pn_ifq c4 hf
          exact kx107 x7 H locs ls (Option.some.inj hf).symm hP hS (lv_sub hl [3, 5] rfl)
  have jn42 : ∀ (x2 : Int32) (x3 : Int32) (H : Heap) (locs : List Loc) (ls : Array Slot), j_X4_shortestSpelling_42 N v_t_cases r_t_firstSlot r_t_foundBy r_t_namedBy r_t_paper_cites p1 x2 x3 = some rR → va_P D vwCl [(a_t, .inr (3, [.ref a_t_paper, .ref a_t_linked, .ref a_t_caseAt, .ref a_t_reasonAt, .ref a_t_firstSlot, .ref a_t_members, .ref a_t_namedBy, .ref a_t_foundBy, .int v_t_linkedVersion, .int v_t_studiedVersion, .int v_t_present, .int v_t_fulls, .int v_t_cases, .int v_t_cited, .int v_t_alive, .int v_t_dead])), (a_t_caseAt, .inl (cI, 32, .inl r_t_caseAt)), (a_t_firstSlot, .inl (cI, 32, .inl r_t_firstSlot)), (a_t_foundBy, .inl (cI, 8, .inl r_t_foundBy)), (a_t_namedBy, .inl (cI, 6, .inl r_t_namedBy)), (a_t_paper, .inr (0, [.ref a_t_paper_sizes, .ref a_t_paper_cites, .int v_t_paper_notes, .int v_t_paper_version])), (a_t_paper_cites, .inl (cJ, 32, .inr (.inl r_t_paper_cites))), (a_t_paper_sizes, .inl (cI, 8, .inl r_t_paper_sizes))] H → va_S A s.heap H locs → lv_has ls 8 [(0, .ref a_t), (1, .int p1), (2, .int x2), (3, .int x3)] → W p l e { frames := 2, cells := 0, slots := 0, locals := 44 } s m args below meth c H locs 0 0 Qm (F0 m 42 ls []) := by
    intro x2 x3 H locs ls hf hP hS hl
    rw [j_X4_shortestSpelling_42] at hf
    refine lv_aload_n hx hb dX4_shortestSpelling_42 rfl (lv_at hl 0 rfl) ?_
    refine lv_iload_n hx hb dX4_shortestSpelling_43 rfl (lv_at hl 2 rfl) ?_
    obtain ⟨ru6, hu6, hf⟩ := pn_bd1_at hf
    refine pn_calll [0, 2, 5, 6] (va_runV (As := [.int x2]) (rest := []) ⟨hx, hb, hml, hown, hts⟩ (c_X4_firstCite l D cI cJ cZ a_t a_t_paper a_t_linked a_t_caseAt a_t_reasonAt a_t_firstSlot a_t_members a_t_namedBy a_t_foundBy a_t_paper_sizes a_t_paper_cites H.size v_t_linkedVersion v_t_studiedVersion v_t_present v_t_fulls v_t_cited v_t_alive v_t_dead v_t_paper_notes v_t_paper_version v_t_cases r_t_firstSlot r_t_paper_cites x2 ru6 hu6) (cwV 1 hts gX4_shortestSpelling_X4_firstCite rfl rfl rfl hdX4_firstCite ⟨Nat.le_of_ble_eq_true rfl, Nat.le_of_ble_eq_true rfl⟩) (pn_preV [0, 2, 5, 6] hP (hD.addr rfl) hK rfl rfl (q0 := 0) (ci := 3) rfl rfl) rfl rfl hl.1 rfl (lv_room (Nat.le_of_ble_eq_true rfl)) dX4_shortestSpelling_44 ⟨Nat.zero_le _, Nat.zero_le _⟩) hP (hD.addr rfl) hS hA rfl rfl rfl (fun H locs (hP : va_P D vwCl [(a_t, .inr (3, [.ref a_t_paper, .ref a_t_linked, .ref a_t_caseAt, .ref a_t_reasonAt, .ref a_t_firstSlot, .ref a_t_members, .ref a_t_namedBy, .ref a_t_foundBy, .int v_t_linkedVersion, .int v_t_studiedVersion, .int v_t_present, .int v_t_fulls, .int v_t_cases, .int v_t_cited, .int v_t_alive, .int v_t_dead])), (a_t_caseAt, .inl (cI, 32, .inl r_t_caseAt)), (a_t_firstSlot, .inl (cI, 32, .inl r_t_firstSlot)), (a_t_foundBy, .inl (cI, 8, .inl r_t_foundBy)), (a_t_namedBy, .inl (cI, 6, .inl r_t_namedBy)), (a_t_paper, .inr (0, [.ref a_t_paper_sizes, .ref a_t_paper_cites, .int v_t_paper_notes, .int v_t_paper_version])), (a_t_paper_cites, .inl (cJ, 32, .inr (.inl r_t_paper_cites))), (a_t_paper_sizes, .inl (cI, 8, .inl r_t_paper_sizes))] H) _ hS => ?_)
    obtain ⟨ru7, hu7, hf⟩ := pn_bd1_at hf
    refine pn_calli [] (va_runS (As := [.long ru6]) (rest := []) ⟨hx, hb, hml, hown, hts⟩ (c_X0_first l D cI cJ cZ H.size ru6 ru7 hu7) (va_cwS 1 hts gX4_shortestSpelling_X0_first rfl rfl rfl hdX0_first ⟨Nat.le_of_ble_eq_true rfl, Nat.le_of_ble_eq_true rfl⟩) (pn_preS [] hP (hD.addr rfl) hK rfl rfl) rfl rfl hl.1 rfl (lv_room (Nat.le_of_ble_eq_true rfl)) dX4_shortestSpelling_47 ⟨Nat.zero_le _, Nat.zero_le _⟩) hP (hD.addr rfl) hS hA rfl rfl rfl (fun H locs (hP : va_P D vwCl [(a_t, .inr (3, [.ref a_t_paper, .ref a_t_linked, .ref a_t_caseAt, .ref a_t_reasonAt, .ref a_t_firstSlot, .ref a_t_members, .ref a_t_namedBy, .ref a_t_foundBy, .int v_t_linkedVersion, .int v_t_studiedVersion, .int v_t_present, .int v_t_fulls, .int v_t_cases, .int v_t_cited, .int v_t_alive, .int v_t_dead])), (a_t_caseAt, .inl (cI, 32, .inl r_t_caseAt)), (a_t_firstSlot, .inl (cI, 32, .inl r_t_firstSlot)), (a_t_foundBy, .inl (cI, 8, .inl r_t_foundBy)), (a_t_namedBy, .inl (cI, 6, .inl r_t_namedBy)), (a_t_paper, .inr (0, [.ref a_t_paper_sizes, .ref a_t_paper_cites, .int v_t_paper_notes, .int v_t_paper_version])), (a_t_paper_cites, .inl (cJ, 32, .inr (.inl r_t_paper_cites))), (a_t_paper_sizes, .inl (cI, 8, .inl r_t_paper_sizes))] H) _ hS => ?_)
    refine lv_istore (lv' := [(5, .int ru7), (0, .ref a_t), (1, .int p1), (2, .int x2), (3, .int x3)]) hx hb dX4_shortestSpelling_50 hl (by decide) rfl (fun ls hl => ?_)
    refine lv_iconst (v := (1)) hx hb dX4_shortestSpelling_52 (by decide) ?_
    refine lv_iload_n hx hb dX4_shortestSpelling_53 rfl (lv_at hl 3 rfl) ?_
    refine lv_ishl hx hb dX4_shortestSpelling_54 ?_
    refine lv_topi (fun z8 ez8 => ?_)
    have hf := pn_nm_at ez8 hf
    refine lv_istore (lv' := [(6, .int z8), (5, .int ru7), (0, .ref a_t), (1, .int p1), (2, .int x2), (3, .int x3)]) hx hb dX4_shortestSpelling_55 hl (by decide) rfl (fun ls hl => ?_)
    refine lv_aload_n hx hb dX4_shortestSpelling_57 rfl (lv_at hl 2 rfl) ?_
    refine lv_iload hx hb dX4_shortestSpelling_58 (lv_at hl 1 rfl) ?_
    obtain ⟨ru9, hu9, hf⟩ := pn_bd1_at hf
    refine pn_calli [0, 4] (va_runV (As := [.int ru7]) (rest := []) ⟨hx, hb, hml, hown, hts⟩ (c_X4_namedWith l D cI cJ cZ a_t a_t_paper a_t_linked a_t_caseAt a_t_reasonAt a_t_firstSlot a_t_members a_t_namedBy a_t_foundBy H.size v_t_linkedVersion v_t_studiedVersion v_t_present v_t_fulls v_t_cases v_t_cited v_t_alive v_t_dead r_t_namedBy ru7 ru9 hu9) (cwV 1 hts gX4_shortestSpelling_X4_namedWith rfl rfl rfl hdX4_namedWith ⟨Nat.le_of_ble_eq_true rfl, Nat.le_of_ble_eq_true rfl⟩) (pn_preV [0, 4] hP (hD.addr rfl) hK rfl rfl (q0 := 0) (ci := 3) rfl rfl) rfl rfl hl.1 rfl (lv_room (Nat.le_of_ble_eq_true rfl)) dX4_shortestSpelling_60 ⟨Nat.zero_le _, Nat.zero_le _⟩) hP (hD.addr rfl) hS hA rfl rfl rfl (fun H locs (hP : va_P D vwCl [(a_t, .inr (3, [.ref a_t_paper, .ref a_t_linked, .ref a_t_caseAt, .ref a_t_reasonAt, .ref a_t_firstSlot, .ref a_t_members, .ref a_t_namedBy, .ref a_t_foundBy, .int v_t_linkedVersion, .int v_t_studiedVersion, .int v_t_present, .int v_t_fulls, .int v_t_cases, .int v_t_cited, .int v_t_alive, .int v_t_dead])), (a_t_caseAt, .inl (cI, 32, .inl r_t_caseAt)), (a_t_firstSlot, .inl (cI, 32, .inl r_t_firstSlot)), (a_t_foundBy, .inl (cI, 8, .inl r_t_foundBy)), (a_t_namedBy, .inl (cI, 6, .inl r_t_namedBy)), (a_t_paper, .inr (0, [.ref a_t_paper_sizes, .ref a_t_paper_cites, .int v_t_paper_notes, .int v_t_paper_version])), (a_t_paper_cites, .inl (cJ, 32, .inr (.inl r_t_paper_cites))), (a_t_paper_sizes, .inl (cI, 8, .inl r_t_paper_sizes))] H) _ hS => ?_)
    refine lv_aload_n hx hb dX4_shortestSpelling_63 rfl (lv_at hl 2 rfl) ?_
    refine lv_iload_n hx hb dX4_shortestSpelling_64 rfl (lv_at hl 3 rfl) ?_
    obtain ⟨ru10, hu10, hf⟩ := pn_bd1_at hf
    refine pn_calli [0, 2] (va_runV (As := [.int p1]) (rest := [.int ru9]) ⟨hx, hb, hml, hown, hts⟩ (c_X4_citedBefore l D cI cJ cZ a_t a_t_paper a_t_linked a_t_caseAt a_t_reasonAt a_t_firstSlot a_t_members a_t_namedBy a_t_foundBy H.size v_t_linkedVersion v_t_studiedVersion v_t_present v_t_fulls v_t_cited v_t_alive v_t_dead N v_t_cases r_t_firstSlot p1 ru10 hu10) (cwV 1 hts gX4_shortestSpelling_X4_citedBefore rfl rfl rfl hdX4_citedBefore ⟨Nat.le_of_ble_eq_true rfl, Nat.le_of_ble_eq_true rfl⟩) (pn_preV [0, 2] hP (hD.addr rfl) hK rfl rfl (q0 := 0) (ci := 3) rfl rfl) rfl rfl hl.1 rfl (lv_room (Nat.le_of_ble_eq_true rfl)) dX4_shortestSpelling_65 ⟨Nat.zero_le _, Nat.zero_le _⟩) hP (hD.addr rfl) hS hA rfl rfl rfl (fun H locs (hP : va_P D vwCl [(a_t, .inr (3, [.ref a_t_paper, .ref a_t_linked, .ref a_t_caseAt, .ref a_t_reasonAt, .ref a_t_firstSlot, .ref a_t_members, .ref a_t_namedBy, .ref a_t_foundBy, .int v_t_linkedVersion, .int v_t_studiedVersion, .int v_t_present, .int v_t_fulls, .int v_t_cases, .int v_t_cited, .int v_t_alive, .int v_t_dead])), (a_t_caseAt, .inl (cI, 32, .inl r_t_caseAt)), (a_t_firstSlot, .inl (cI, 32, .inl r_t_firstSlot)), (a_t_foundBy, .inl (cI, 8, .inl r_t_foundBy)), (a_t_namedBy, .inl (cI, 6, .inl r_t_namedBy)), (a_t_paper, .inr (0, [.ref a_t_paper_sizes, .ref a_t_paper_cites, .int v_t_paper_notes, .int v_t_paper_version])), (a_t_paper_cites, .inl (cJ, 32, .inr (.inl r_t_paper_cites))), (a_t_paper_sizes, .inl (cI, 8, .inl r_t_paper_sizes))] H) _ hS => ?_)
    refine lv_iand hx hb dX4_shortestSpelling_68 ?_
    refine lv_iload hx hb dX4_shortestSpelling_69 (lv_at hl 0 rfl) ?_
    refine lv_icmp_ne (tgt := 80) hx hb dX4_shortestSpelling_71 (by decide) (fun c11 => ?_) (fun c11 => ?_)
    · have hf := pn_ifp c11 hf
      refine lv_iconst (v := (0)) hx hb dX4_shortestSpelling_80 (by decide) ?_
      refine lv_istore (lv' := [(7, .int (0 : Int32)), (6, .int z8), (5, .int ru7), (0, .ref a_t), (1, .int p1), (2, .int x2), (3, .int x3)]) hx hb dX4_shortestSpelling_81 hl (by decide) rfl (fun ls hl => ?_)
      obtain ⟨X83, hX83, hf⟩ := pn_bd1_at hf
      refine lp83 N x2 x3 ru7 z8 (0 : Int32) X83 H locs ls hX83 hP hS (lv_sub hl [3, 5, 6, 2, 1, 0] rfl) ?_ ?_
      · intro x7_w12 H locs ls eX hP hS hl
        rw [eX] at hf
        have hf := pn_s2_l hf
        have hf := pn_u1_at hf
        refine lv_iload hx hb dX4_shortestSpelling_107 (lv_at hl 1 rfl) ?_
        refine lv_iload hx hb dX4_shortestSpelling_109 (lv_at hl 0 rfl) ?_
        obtain ⟨ru13, hu13, hf⟩ := pn_bd1_at hf
        refine pn_calll [] (va_runS (As := [.int x7_w12, .int ru7]) (rest := []) ⟨hx, hb, hml, hown, hts⟩ (c_X0_makeAbove l D cI cJ cZ H.size x7_w12 ru7 ru13 hu13) (va_cwS 2 hts gX4_shortestSpelling_X0_makeAbove rfl rfl rfl hdX0_makeAbove ⟨Nat.le_of_ble_eq_true rfl, Nat.le_of_ble_eq_true rfl⟩) (pn_preS [] hP (hD.addr rfl) hK rfl rfl) rfl rfl hl.1 rfl (lv_room (Nat.le_of_ble_eq_true rfl)) dX4_shortestSpelling_111 ⟨Nat.zero_le _, Nat.zero_le _⟩) hP (hD.addr rfl) hS hA rfl rfl rfl (fun H locs (hP : va_P D vwCl [(a_t, .inr (3, [.ref a_t_paper, .ref a_t_linked, .ref a_t_caseAt, .ref a_t_reasonAt, .ref a_t_firstSlot, .ref a_t_members, .ref a_t_namedBy, .ref a_t_foundBy, .int v_t_linkedVersion, .int v_t_studiedVersion, .int v_t_present, .int v_t_fulls, .int v_t_cases, .int v_t_cited, .int v_t_alive, .int v_t_dead])), (a_t_caseAt, .inl (cI, 32, .inl r_t_caseAt)), (a_t_firstSlot, .inl (cI, 32, .inl r_t_firstSlot)), (a_t_foundBy, .inl (cI, 8, .inl r_t_foundBy)), (a_t_namedBy, .inl (cI, 6, .inl r_t_namedBy)), (a_t_paper, .inr (0, [.ref a_t_paper_sizes, .ref a_t_paper_cites, .int v_t_paper_notes, .int v_t_paper_version])), (a_t_paper_cites, .inl (cJ, 32, .inr (.inl r_t_paper_cites))), (a_t_paper_sizes, .inl (cI, 8, .inl r_t_paper_sizes))] H) _ hS => ?_)
        cases hf
        rw [hQ]
        exact pn_retl hx hb hr hlocks hP hS rfl dX4_shortestSpelling_114
      · intro  H locs ls eX hP hS hl
        rw [eX] at hf
        have hf := pn_s2_r hf
        have hf := pn_u0_at hf
        refine lv_aload_n hx hb dX4_shortestSpelling_121 rfl (lv_at hl 0 rfl) ?_
        refine lv_iload_n hx hb dX4_shortestSpelling_122 rfl (lv_at hl 1 rfl) ?_
        obtain ⟨ru15, hu15, hf⟩ := pn_bd1_at hf
        refine pn_calll [0, 2, 5, 6] (va_runV (As := [.int x2]) (rest := []) ⟨hx, hb, hml, hown, hts⟩ (c_X4_firstCite l D cI cJ cZ a_t a_t_paper a_t_linked a_t_caseAt a_t_reasonAt a_t_firstSlot a_t_members a_t_namedBy a_t_foundBy a_t_paper_sizes a_t_paper_cites H.size v_t_linkedVersion v_t_studiedVersion v_t_present v_t_fulls v_t_cited v_t_alive v_t_dead v_t_paper_notes v_t_paper_version v_t_cases r_t_firstSlot r_t_paper_cites x2 ru15 hu15) (cwV 1 hts gX4_shortestSpelling_X4_firstCite rfl rfl rfl hdX4_firstCite ⟨Nat.le_of_ble_eq_true rfl, Nat.le_of_ble_eq_true rfl⟩) (pn_preV [0, 2, 5, 6] hP (hD.addr rfl) hK rfl rfl (q0 := 0) (ci := 3) rfl rfl) rfl rfl hl.1 rfl (lv_room (Nat.le_of_ble_eq_true rfl)) dX4_shortestSpelling_123 ⟨Nat.zero_le _, Nat.zero_le _⟩) hP (hD.addr rfl) hS hA rfl rfl rfl (fun H locs (hP : va_P D vwCl [(a_t, .inr (3, [.ref a_t_paper, .ref a_t_linked, .ref a_t_caseAt, .ref a_t_reasonAt, .ref a_t_firstSlot, .ref a_t_members, .ref a_t_namedBy, .ref a_t_foundBy, .int v_t_linkedVersion, .int v_t_studiedVersion, .int v_t_present, .int v_t_fulls, .int v_t_cases, .int v_t_cited, .int v_t_alive, .int v_t_dead])), (a_t_caseAt, .inl (cI, 32, .inl r_t_caseAt)), (a_t_firstSlot, .inl (cI, 32, .inl r_t_firstSlot)), (a_t_foundBy, .inl (cI, 8, .inl r_t_foundBy)), (a_t_namedBy, .inl (cI, 6, .inl r_t_namedBy)), (a_t_paper, .inr (0, [.ref a_t_paper_sizes, .ref a_t_paper_cites, .int v_t_paper_notes, .int v_t_paper_version])), (a_t_paper_cites, .inl (cJ, 32, .inr (.inl r_t_paper_cites))), (a_t_paper_sizes, .inl (cI, 8, .inl r_t_paper_sizes))] H) _ hS => ?_)
        cases hf
        rw [hQ]
        exact pn_retl hx hb hr hlocks hP hS rfl dX4_shortestSpelling_126
    · have hf := pn_ifq c11 hf
      refine lv_iload hx hb dX4_shortestSpelling_74 (lv_at hl 1 rfl) ?_
      obtain ⟨ru16, hu16, hf⟩ := pn_bd1_at hf
      refine pn_calll [] (va_runS (As := [.int ru7]) (rest := []) ⟨hx, hb, hml, hown, hts⟩ (c_X0_makeShort l D cI cJ cZ H.size ru7 ru16 hu16) (va_cwS 1 hts gX4_shortestSpelling_X0_makeShort rfl rfl rfl hdX0_makeShort ⟨Nat.le_of_ble_eq_true rfl, Nat.le_of_ble_eq_true rfl⟩) (pn_preS [] hP (hD.addr rfl) hK rfl rfl) rfl rfl hl.1 rfl (lv_room (Nat.le_of_ble_eq_true rfl)) dX4_shortestSpelling_76 ⟨Nat.zero_le _, Nat.zero_le _⟩) hP (hD.addr rfl) hS hA rfl rfl rfl (fun H locs (hP : va_P D vwCl [(a_t, .inr (3, [.ref a_t_paper, .ref a_t_linked, .ref a_t_caseAt, .ref a_t_reasonAt, .ref a_t_firstSlot, .ref a_t_members, .ref a_t_namedBy, .ref a_t_foundBy, .int v_t_linkedVersion, .int v_t_studiedVersion, .int v_t_present, .int v_t_fulls, .int v_t_cases, .int v_t_cited, .int v_t_alive, .int v_t_dead])), (a_t_caseAt, .inl (cI, 32, .inl r_t_caseAt)), (a_t_firstSlot, .inl (cI, 32, .inl r_t_firstSlot)), (a_t_foundBy, .inl (cI, 8, .inl r_t_foundBy)), (a_t_namedBy, .inl (cI, 6, .inl r_t_namedBy)), (a_t_paper, .inr (0, [.ref a_t_paper_sizes, .ref a_t_paper_cites, .int v_t_paper_notes, .int v_t_paper_version])), (a_t_paper_cites, .inl (cJ, 32, .inr (.inl r_t_paper_cites))), (a_t_paper_sizes, .inl (cI, 8, .inl r_t_paper_sizes))] H) _ hS => ?_)
      cases hf
      rw [hQ]
      exact pn_retl hx hb hr hlocks hP hS rfl dX4_shortestSpelling_79
  refine lv_aload_n hx hb dX4_shortestSpelling_0 rfl (lv_at hl 0 rfl) ?_
  refine lv_iload_n hx hb dX4_shortestSpelling_1 rfl (lv_at hl 1 rfl) ?_
  obtain ⟨ru17, hu17, hf⟩ := pn_bd1_at hf
  refine pn_calli [0, 1] (va_runV (As := [.int p1]) (rest := []) ⟨hx, hb, hml, hown, hts⟩ (c_X4_caseOf l D cI cJ cZ a_t a_t_paper a_t_linked a_t_caseAt a_t_reasonAt a_t_firstSlot a_t_members a_t_namedBy a_t_foundBy H.size v_t_linkedVersion v_t_studiedVersion v_t_present v_t_fulls v_t_cases v_t_cited v_t_alive v_t_dead r_t_caseAt p1 ru17 hu17) (cwV 1 hts gX4_shortestSpelling_X4_caseOf rfl rfl rfl hdX4_caseOf ⟨Nat.le_of_ble_eq_true rfl, Nat.le_of_ble_eq_true rfl⟩) (pn_preV [0, 1] hP (hD.addr rfl) hK rfl rfl (q0 := 0) (ci := 3) rfl rfl) rfl rfl hl.1 rfl (lv_room (Nat.le_of_ble_eq_true rfl)) dX4_shortestSpelling_2 ⟨Nat.zero_le _, Nat.zero_le _⟩) hP (hD.addr rfl) hS hA rfl rfl rfl (fun H locs (hP : va_P D vwCl [(a_t, .inr (3, [.ref a_t_paper, .ref a_t_linked, .ref a_t_caseAt, .ref a_t_reasonAt, .ref a_t_firstSlot, .ref a_t_members, .ref a_t_namedBy, .ref a_t_foundBy, .int v_t_linkedVersion, .int v_t_studiedVersion, .int v_t_present, .int v_t_fulls, .int v_t_cases, .int v_t_cited, .int v_t_alive, .int v_t_dead])), (a_t_caseAt, .inl (cI, 32, .inl r_t_caseAt)), (a_t_firstSlot, .inl (cI, 32, .inl r_t_firstSlot)), (a_t_foundBy, .inl (cI, 8, .inl r_t_foundBy)), (a_t_namedBy, .inl (cI, 6, .inl r_t_namedBy)), (a_t_paper, .inr (0, [.ref a_t_paper_sizes, .ref a_t_paper_cites, .int v_t_paper_notes, .int v_t_paper_version])), (a_t_paper_cites, .inl (cJ, 32, .inr (.inl r_t_paper_cites))), (a_t_paper_sizes, .inl (cI, 8, .inl r_t_paper_sizes))] H) _ hS => ?_)
  refine lv_istore_n (lv' := [(2, .int ru17), (0, .ref a_t), (1, .int p1)]) hx hb dX4_shortestSpelling_5 rfl hl (by decide) rfl (fun ls hl => ?_)
  refine lv_iload_n hx hb dX4_shortestSpelling_6 rfl (lv_at hl 2 rfl) ?_
  refine lv_iconst (v := (4)) hx hb dX4_shortestSpelling_7 (by decide) ?_
  refine lv_idiv hx hb dX4_shortestSpelling_8 (by decide) ?_
  refine lv_topi (fun z18 ez18 => ?_)
  have hf := pn_nm_at ez18 hf
  refine lv_istore_n (lv' := [(3, .int z18), (2, .int ru17), (0, .ref a_t), (1, .int p1)]) hx hb dX4_shortestSpelling_9 rfl hl (by decide) rfl (fun ls hl => ?_)
  refine lv_aload_n hx hb dX4_shortestSpelling_10 rfl (lv_at hl 2 rfl) ?_
  refine lv_iload_n hx hb dX4_shortestSpelling_11 rfl (lv_at hl 0 rfl) ?_
  refine lv_iload_n hx hb dX4_shortestSpelling_12 rfl (lv_at hl 3 rfl) ?_
  refine lv_iconst (v := (4)) hx hb dX4_shortestSpelling_13 (by decide) ?_
  refine lv_irem hx hb dX4_shortestSpelling_14 (by decide) ?_
  refine lv_iload_n hx hb dX4_shortestSpelling_15 rfl (lv_at hl 0 rfl) ?_
  refine lv_iconst (v := (1)) hx hb dX4_shortestSpelling_16 (by decide) ?_
  refine lv_isub hx hb dX4_shortestSpelling_17 ?_
  obtain ⟨ru19, hu19, hf⟩ := pn_bd1_at hf
  refine pn_calli [0, 5, 7] (va_runV (As := [.int z18, .int (p1 - p1 / (4 : Int32) * (4 : Int32)), .int (z18 - (1 : Int32))]) (rest := []) ⟨hx, hb, hml, hown, hts⟩ (c_X4_pointedAt l D cI cJ cZ a_t a_t_paper a_t_linked a_t_caseAt a_t_reasonAt a_t_firstSlot a_t_members a_t_namedBy a_t_foundBy a_t_paper_sizes a_t_paper_cites H.size v_t_linkedVersion v_t_studiedVersion v_t_present v_t_fulls v_t_cases v_t_cited v_t_alive v_t_dead v_t_paper_version v_t_paper_notes r_t_paper_sizes z18 (p1 - p1 / (4 : Int32) * (4 : Int32)) (z18 - (1 : Int32)) ru19 hu19) (cwV 3 hts gX4_shortestSpelling_X4_pointedAt rfl rfl rfl hdX4_pointedAt ⟨Nat.le_of_ble_eq_true rfl, Nat.le_of_ble_eq_true rfl⟩) (pn_preV [0, 5, 7] hP (hD.addr rfl) hK rfl rfl (q0 := 0) (ci := 3) rfl rfl) rfl rfl hl.1 rfl (lv_room (Nat.le_of_ble_eq_true rfl)) dX4_shortestSpelling_18 ⟨Nat.zero_le _, Nat.zero_le _⟩) hP (hD.addr rfl) hS hA rfl rfl rfl (fun H locs (hP : va_P D vwCl [(a_t, .inr (3, [.ref a_t_paper, .ref a_t_linked, .ref a_t_caseAt, .ref a_t_reasonAt, .ref a_t_firstSlot, .ref a_t_members, .ref a_t_namedBy, .ref a_t_foundBy, .int v_t_linkedVersion, .int v_t_studiedVersion, .int v_t_present, .int v_t_fulls, .int v_t_cases, .int v_t_cited, .int v_t_alive, .int v_t_dead])), (a_t_caseAt, .inl (cI, 32, .inl r_t_caseAt)), (a_t_firstSlot, .inl (cI, 32, .inl r_t_firstSlot)), (a_t_foundBy, .inl (cI, 8, .inl r_t_foundBy)), (a_t_namedBy, .inl (cI, 6, .inl r_t_namedBy)), (a_t_paper, .inr (0, [.ref a_t_paper_sizes, .ref a_t_paper_cites, .int v_t_paper_notes, .int v_t_paper_version])), (a_t_paper_cites, .inl (cJ, 32, .inr (.inl r_t_paper_cites))), (a_t_paper_sizes, .inl (cI, 8, .inl r_t_paper_sizes))] H) _ hS => ?_)
  refine lv_istore (lv' := [(4, .int ru19), (3, .int z18), (2, .int ru17), (0, .ref a_t), (1, .int p1)]) hx hb dX4_shortestSpelling_21 hl (by decide) rfl (fun ls hl => ?_)
  refine lv_iload hx hb dX4_shortestSpelling_23 (lv_at hl 0 rfl) ?_
  refine lv_if_lt (tgt := 42) hx hb dX4_shortestSpelling_25 (by decide) (fun c20 => ?_) (fun c20 => ?_)
  · have hf := pn_ifp c20 hf
    exact jn42 ru17 z18 H locs ls hf hP hS (lv_sub hl [3, 4, 2, 1] rfl)
  · have hf := pn_ifn c20 hf
    refine lv_aload_n hx hb dX4_shortestSpelling_28 rfl (lv_at hl 3 rfl) ?_
    refine lv_iload hx hb dX4_shortestSpelling_29 (lv_at hl 0 rfl) ?_
    obtain ⟨ru21, hu21, hf⟩ := pn_bd1_at hf
    refine pn_calli [0, 1] (va_runV (As := [.int ru19]) (rest := []) ⟨hx, hb, hml, hown, hts⟩ (c_X4_caseOf l D cI cJ cZ a_t a_t_paper a_t_linked a_t_caseAt a_t_reasonAt a_t_firstSlot a_t_members a_t_namedBy a_t_foundBy H.size v_t_linkedVersion v_t_studiedVersion v_t_present v_t_fulls v_t_cases v_t_cited v_t_alive v_t_dead r_t_caseAt ru19 ru21 hu21) (cwV 1 hts gX4_shortestSpelling_X4_caseOf rfl rfl rfl hdX4_caseOf ⟨Nat.le_of_ble_eq_true rfl, Nat.le_of_ble_eq_true rfl⟩) (pn_preV [0, 1] hP (hD.addr rfl) hK rfl rfl (q0 := 0) (ci := 3) rfl rfl) rfl rfl hl.1 rfl (lv_room (Nat.le_of_ble_eq_true rfl)) dX4_shortestSpelling_31 ⟨Nat.zero_le _, Nat.zero_le _⟩) hP (hD.addr rfl) hS hA rfl rfl rfl (fun H locs (hP : va_P D vwCl [(a_t, .inr (3, [.ref a_t_paper, .ref a_t_linked, .ref a_t_caseAt, .ref a_t_reasonAt, .ref a_t_firstSlot, .ref a_t_members, .ref a_t_namedBy, .ref a_t_foundBy, .int v_t_linkedVersion, .int v_t_studiedVersion, .int v_t_present, .int v_t_fulls, .int v_t_cases, .int v_t_cited, .int v_t_alive, .int v_t_dead])), (a_t_caseAt, .inl (cI, 32, .inl r_t_caseAt)), (a_t_firstSlot, .inl (cI, 32, .inl r_t_firstSlot)), (a_t_foundBy, .inl (cI, 8, .inl r_t_foundBy)), (a_t_namedBy, .inl (cI, 6, .inl r_t_namedBy)), (a_t_paper, .inr (0, [.ref a_t_paper_sizes, .ref a_t_paper_cites, .int v_t_paper_notes, .int v_t_paper_version])), (a_t_paper_cites, .inl (cJ, 32, .inr (.inl r_t_paper_cites))), (a_t_paper_sizes, .inl (cI, 8, .inl r_t_paper_sizes))] H) _ hS => ?_)
    refine lv_iload_n hx hb dX4_shortestSpelling_34 rfl (lv_at hl 2 rfl) ?_
    refine lv_icmp_ne (tgt := 42) hx hb dX4_shortestSpelling_35 (by decide) (fun c22 => ?_) (fun c22 => ?_)
    · have hf := pn_ifp c22 hf
      exact jn42 ru17 z18 H locs ls hf hP hS (lv_sub hl [3, 4, 2, 1] rfl)
    · have hf := pn_ifq c22 hf
      obtain ⟨ru23, hu23, hf⟩ := pn_bd1_at hf
      refine pn_calll [] (va_runS (As := []) (rest := []) ⟨hx, hb, hml, hown, hts⟩ (c_X0_makeSame l D cI cJ cZ H.size ru23 hu23) (va_cwS 0 hts gX4_shortestSpelling_X0_makeSame rfl rfl rfl hdX0_makeSame ⟨Nat.le_of_ble_eq_true rfl, Nat.le_of_ble_eq_true rfl⟩) (pn_preS [] hP (hD.addr rfl) hK rfl rfl) rfl rfl hl.1 rfl (lv_room (Nat.le_of_ble_eq_true rfl)) dX4_shortestSpelling_38 ⟨Nat.zero_le _, Nat.zero_le _⟩) hP (hD.addr rfl) hS hA rfl rfl rfl (fun H locs (hP : va_P D vwCl [(a_t, .inr (3, [.ref a_t_paper, .ref a_t_linked, .ref a_t_caseAt, .ref a_t_reasonAt, .ref a_t_firstSlot, .ref a_t_members, .ref a_t_namedBy, .ref a_t_foundBy, .int v_t_linkedVersion, .int v_t_studiedVersion, .int v_t_present, .int v_t_fulls, .int v_t_cases, .int v_t_cited, .int v_t_alive, .int v_t_dead])), (a_t_caseAt, .inl (cI, 32, .inl r_t_caseAt)), (a_t_firstSlot, .inl (cI, 32, .inl r_t_firstSlot)), (a_t_foundBy, .inl (cI, 8, .inl r_t_foundBy)), (a_t_namedBy, .inl (cI, 6, .inl r_t_namedBy)), (a_t_paper, .inr (0, [.ref a_t_paper_sizes, .ref a_t_paper_cites, .int v_t_paper_notes, .int v_t_paper_version])), (a_t_paper_cites, .inl (cJ, 32, .inr (.inl r_t_paper_cites))), (a_t_paper_sizes, .inl (cI, 8, .inl r_t_paper_sizes))] H) _ hS => ?_)
      cases hf
      rw [hQ]
      exact pn_retl hx hb hr hlocks hP hS rfl dX4_shortestSpelling_41
def j_X4_shortened_37 (N : Nat) (v_t_cases : Int32) (r_t_caseAt : Nat → Int32) (r_t_firstSlot : Nat → Int32) (r_t_foundBy : Nat → Int32) (r_t_namedBy : Nat → Int32) (v_t_paper_notes : Int32) (r_t_paper_cites : Nat → Int64) (r_t_paper_sizes : Nat → Int32) (p1 : Int32) (x2 : Int64) : Option (Int64) :=
  pn_bd1 (f_X4_shortestSpelling N v_t_cases r_t_caseAt r_t_firstSlot r_t_foundBy r_t_namedBy v_t_paper_notes r_t_paper_cites r_t_paper_sizes p1) fun ru1 =>
  pn_bd1 (f_X0_pin x2) fun ru2 =>
  pn_bd1 (f_X0_withPin ru1 ru2) fun ru3 =>
  some ru3
def f_X4_shortened (N : Nat) (v_t_fulls : Int32) (v_t_cases : Int32) (r_t_caseAt : Nat → Int32) (r_t_firstSlot : Nat → Int32) (r_t_foundBy : Nat → Int32) (r_t_namedBy : Nat → Int32) (v_t_paper_notes : Int32) (r_t_paper_cites : Nat → Int64) (r_t_paper_sizes : Nat → Int32) (p1 : Int32) : Option (Int64) :=
  pn_bd1 (f_X1_cite r_t_paper_cites p1) fun ru4 =>
  pn_bd1 (f_X4_caseOf r_t_caseAt p1) fun ru5 =>
  if 0 ≤ ru5 then
  pn_bd1 (f_X4_isFull v_t_fulls p1) fun ru7 =>
  if ru7 = 0 then
  j_X4_shortened_37 N v_t_cases r_t_caseAt r_t_firstSlot r_t_foundBy r_t_namedBy v_t_paper_notes r_t_paper_cites r_t_paper_sizes p1 ru4
  else
  pn_bd1 (f_X4_isCoveredBefore N v_t_fulls r_t_paper_cites p1) fun ru9 =>
  if ¬ ru9 = 0 then
  j_X4_shortened_37 N v_t_cases r_t_caseAt r_t_firstSlot r_t_foundBy r_t_namedBy v_t_paper_notes r_t_paper_cites r_t_paper_sizes p1 ru4
  else
  some ru4
  else
  some ru4
set_option maxHeartbeats 4000000 in
set_option maxRecDepth 100000 in
theorem c_X4_shortened (l : Launch) (D : va_G) (cI cJ cZ : ClassId) (a_t a_t_paper a_t_linked a_t_caseAt a_t_reasonAt a_t_firstSlot a_t_members a_t_namedBy a_t_foundBy a_t_paper_sizes a_t_paper_cites : Nat) (sz : Nat) (v_t_linkedVersion : Int32) (v_t_studiedVersion : Int32) (v_t_present : Int32) (v_t_cited : Int32) (v_t_alive : Int32) (v_t_dead : Int32) (v_t_paper_version : Int32) (N : Nat) (v_t_fulls : Int32) (v_t_cases : Int32) (r_t_caseAt : Nat → Int32) (r_t_firstSlot : Nat → Int32) (r_t_foundBy : Nat → Int32) (r_t_namedBy : Nat → Int32) (v_t_paper_notes : Int32) (r_t_paper_cites : Nat → Int64) (r_t_paper_sizes : Nat → Int32) (p1 : Int32) (rR : Int64) (hf : f_X4_shortened N v_t_fulls v_t_cases r_t_caseAt r_t_firstSlot r_t_foundBy r_t_namedBy v_t_paper_notes r_t_paper_cites r_t_paper_sizes p1 = some rR) : Met l yX4_shortened wsX4_shortened { frames := 3, cells := 0, slots := 0, locals := 71 } (pn_Pc D cI cJ cZ [.ref a_t, .int p1] [(a_t, .inr (3, [.ref a_t_paper, .ref a_t_linked, .ref a_t_caseAt, .ref a_t_reasonAt, .ref a_t_firstSlot, .ref a_t_members, .ref a_t_namedBy, .ref a_t_foundBy, .int v_t_linkedVersion, .int v_t_studiedVersion, .int v_t_present, .int v_t_fulls, .int v_t_cases, .int v_t_cited, .int v_t_alive, .int v_t_dead])), (a_t_caseAt, .inl (cI, 32, .inl r_t_caseAt)), (a_t_firstSlot, .inl (cI, 32, .inl r_t_firstSlot)), (a_t_foundBy, .inl (cI, 8, .inl r_t_foundBy)), (a_t_namedBy, .inl (cI, 6, .inl r_t_namedBy)), (a_t_paper, .inr (0, [.ref a_t_paper_sizes, .ref a_t_paper_cites, .int v_t_paper_notes, .int v_t_paper_version])), (a_t_paper_cites, .inl (cJ, 32, .inr (.inl r_t_paper_cites))), (a_t_paper_sizes, .inl (cI, 8, .inl r_t_paper_sizes))] sz) (pn_Ql D rR [(a_t, .inr (3, [.ref a_t_paper, .ref a_t_linked, .ref a_t_caseAt, .ref a_t_reasonAt, .ref a_t_firstSlot, .ref a_t_members, .ref a_t_namedBy, .ref a_t_foundBy, .int v_t_linkedVersion, .int v_t_studiedVersion, .int v_t_present, .int v_t_fulls, .int v_t_cases, .int v_t_cited, .int v_t_alive, .int v_t_dead])), (a_t_caseAt, .inl (cI, 32, .inl r_t_caseAt)), (a_t_firstSlot, .inl (cI, 32, .inl r_t_firstSlot)), (a_t_foundBy, .inl (cI, 8, .inl r_t_foundBy)), (a_t_namedBy, .inl (cI, 6, .inl r_t_namedBy)), (a_t_paper, .inr (0, [.ref a_t_paper_sizes, .ref a_t_paper_cites, .int v_t_paper_notes, .int v_t_paper_version])), (a_t_paper_cites, .inl (cJ, 32, .inr (.inl r_t_paper_cites))), (a_t_paper_sizes, .inl (cI, 8, .inl r_t_paper_sizes))] (va_A [(a_t, .inr (3, [.ref a_t_paper, .ref a_t_linked, .ref a_t_caseAt, .ref a_t_reasonAt, .ref a_t_firstSlot, .ref a_t_members, .ref a_t_namedBy, .ref a_t_foundBy, .int v_t_linkedVersion, .int v_t_studiedVersion, .int v_t_present, .int v_t_fulls, .int v_t_cases, .int v_t_cited, .int v_t_alive, .int v_t_dead])), (a_t_caseAt, .inl (cI, 32, .inl r_t_caseAt)), (a_t_firstSlot, .inl (cI, 32, .inl r_t_firstSlot)), (a_t_foundBy, .inl (cI, 8, .inl r_t_foundBy)), (a_t_namedBy, .inl (cI, 6, .inl r_t_namedBy)), (a_t_paper, .inr (0, [.ref a_t_paper_sizes, .ref a_t_paper_cites, .int v_t_paper_notes, .int v_t_paper_version])), (a_t_paper_cites, .inl (cJ, 32, .inr (.inl r_t_paper_cites))), (a_t_paper_sizes, .inl (cI, 8, .inl r_t_paper_sizes))] sz)) 0 0 (va_A [(a_t, .inr (3, [.ref a_t_paper, .ref a_t_linked, .ref a_t_caseAt, .ref a_t_reasonAt, .ref a_t_firstSlot, .ref a_t_members, .ref a_t_namedBy, .ref a_t_foundBy, .int v_t_linkedVersion, .int v_t_studiedVersion, .int v_t_present, .int v_t_fulls, .int v_t_cases, .int v_t_cited, .int v_t_alive, .int v_t_dead])), (a_t_caseAt, .inl (cI, 32, .inl r_t_caseAt)), (a_t_firstSlot, .inl (cI, 32, .inl r_t_firstSlot)), (a_t_foundBy, .inl (cI, 8, .inl r_t_foundBy)), (a_t_namedBy, .inl (cI, 6, .inl r_t_namedBy)), (a_t_paper, .inr (0, [.ref a_t_paper_sizes, .ref a_t_paper_cites, .int v_t_paper_notes, .int v_t_paper_version])), (a_t_paper_cites, .inl (cJ, 32, .inr (.inl r_t_paper_cites))), (a_t_paper_sizes, .inl (cI, 8, .inl r_t_paper_sizes))] sz) := by
  refine pn_entry (cc := cX4_shortened) (maxL := 4) (ret := (some .long)) (Qf := pn_Ql D rR [(a_t, .inr (3, [.ref a_t_paper, .ref a_t_linked, .ref a_t_caseAt, .ref a_t_reasonAt, .ref a_t_firstSlot, .ref a_t_members, .ref a_t_namedBy, .ref a_t_foundBy, .int v_t_linkedVersion, .int v_t_studiedVersion, .int v_t_present, .int v_t_fulls, .int v_t_cases, .int v_t_cited, .int v_t_alive, .int v_t_dead])), (a_t_caseAt, .inl (cI, 32, .inl r_t_caseAt)), (a_t_firstSlot, .inl (cI, 32, .inl r_t_firstSlot)), (a_t_foundBy, .inl (cI, 8, .inl r_t_foundBy)), (a_t_namedBy, .inl (cI, 6, .inl r_t_namedBy)), (a_t_paper, .inr (0, [.ref a_t_paper_sizes, .ref a_t_paper_cites, .int v_t_paper_notes, .int v_t_paper_version])), (a_t_paper_cites, .inl (cJ, 32, .inr (.inl r_t_paper_cites))), (a_t_paper_sizes, .inl (cI, 8, .inl r_t_paper_sizes))]) (by decide) rfl (Nat.le_of_ble_eq_true rfl) ?_
  intro p e s m args below meth c A ls H locs Qm hQ hx hb hr hlocks hml hown hts hK hP hD hA hS hl
  have hl : lv_has ls 4 [(0, .ref a_t), (1, .int p1)] := hl
  have hinX4 : ∀ w ∈ wsX40, w ∈ wsX4_shortened := by decide +kernel
  have fl_12 := hts (.fieldLink RX4 12 "PointingNotes$Study" "paper" "LPointingNotes$Paper;") (by decide +kernel)
  rw [f_X4_shortened] at hf
  have jn37 : ∀ (x2 : Int64) (H : Heap) (locs : List Loc) (ls : Array Slot), j_X4_shortened_37 N v_t_cases r_t_caseAt r_t_firstSlot r_t_foundBy r_t_namedBy v_t_paper_notes r_t_paper_cites r_t_paper_sizes p1 x2 = some rR → va_P D vwCl [(a_t, .inr (3, [.ref a_t_paper, .ref a_t_linked, .ref a_t_caseAt, .ref a_t_reasonAt, .ref a_t_firstSlot, .ref a_t_members, .ref a_t_namedBy, .ref a_t_foundBy, .int v_t_linkedVersion, .int v_t_studiedVersion, .int v_t_present, .int v_t_fulls, .int v_t_cases, .int v_t_cited, .int v_t_alive, .int v_t_dead])), (a_t_caseAt, .inl (cI, 32, .inl r_t_caseAt)), (a_t_firstSlot, .inl (cI, 32, .inl r_t_firstSlot)), (a_t_foundBy, .inl (cI, 8, .inl r_t_foundBy)), (a_t_namedBy, .inl (cI, 6, .inl r_t_namedBy)), (a_t_paper, .inr (0, [.ref a_t_paper_sizes, .ref a_t_paper_cites, .int v_t_paper_notes, .int v_t_paper_version])), (a_t_paper_cites, .inl (cJ, 32, .inr (.inl r_t_paper_cites))), (a_t_paper_sizes, .inl (cI, 8, .inl r_t_paper_sizes))] H → va_S A s.heap H locs → lv_has ls 4 [(0, .ref a_t), (1, .int p1), (2, .long x2)] → W p l e { frames := 3, cells := 0, slots := 0, locals := 71 } s m args below meth c H locs 0 0 Qm (F0 m 37 ls []) := by
    intro x2 H locs ls hf hP hS hl
    rw [j_X4_shortened_37] at hf
    refine lv_aload_n hx hb dX4_shortened_37 rfl (lv_at hl 0 rfl) ?_
    refine lv_iload_n hx hb dX4_shortened_38 rfl (lv_at hl 1 rfl) ?_
    obtain ⟨ru1, hu1, hf⟩ := pn_bd1_at hf
    refine pn_calll [0, 1, 2, 3, 4, 5, 6, 7] (va_runV (As := [.int p1]) (rest := []) ⟨hx, hb, hml, hown, hts⟩ (c_X4_shortestSpelling l D cI cJ cZ a_t a_t_paper a_t_linked a_t_caseAt a_t_reasonAt a_t_firstSlot a_t_members a_t_namedBy a_t_foundBy a_t_paper_sizes a_t_paper_cites H.size v_t_linkedVersion v_t_studiedVersion v_t_present v_t_fulls v_t_cited v_t_alive v_t_dead v_t_paper_version N v_t_cases r_t_caseAt r_t_firstSlot r_t_foundBy r_t_namedBy v_t_paper_notes r_t_paper_cites r_t_paper_sizes p1 ru1 hu1) (cwV 1 hts gX4_shortened_X4_shortestSpelling rfl rfl rfl hdX4_shortestSpelling ⟨Nat.le_of_ble_eq_true rfl, Nat.le_of_ble_eq_true rfl⟩) (pn_preV [0, 1, 2, 3, 4, 5, 6, 7] hP (hD.addr rfl) hK rfl rfl (q0 := 0) (ci := 3) rfl rfl) rfl rfl hl.1 rfl (lv_room (Nat.le_of_ble_eq_true rfl)) dX4_shortened_39 ⟨Nat.zero_le _, Nat.zero_le _⟩) hP (hD.addr rfl) hS hA rfl rfl rfl (fun H locs (hP : va_P D vwCl [(a_t, .inr (3, [.ref a_t_paper, .ref a_t_linked, .ref a_t_caseAt, .ref a_t_reasonAt, .ref a_t_firstSlot, .ref a_t_members, .ref a_t_namedBy, .ref a_t_foundBy, .int v_t_linkedVersion, .int v_t_studiedVersion, .int v_t_present, .int v_t_fulls, .int v_t_cases, .int v_t_cited, .int v_t_alive, .int v_t_dead])), (a_t_caseAt, .inl (cI, 32, .inl r_t_caseAt)), (a_t_firstSlot, .inl (cI, 32, .inl r_t_firstSlot)), (a_t_foundBy, .inl (cI, 8, .inl r_t_foundBy)), (a_t_namedBy, .inl (cI, 6, .inl r_t_namedBy)), (a_t_paper, .inr (0, [.ref a_t_paper_sizes, .ref a_t_paper_cites, .int v_t_paper_notes, .int v_t_paper_version])), (a_t_paper_cites, .inl (cJ, 32, .inr (.inl r_t_paper_cites))), (a_t_paper_sizes, .inl (cI, 8, .inl r_t_paper_sizes))] H) _ hS => ?_)
    refine lv_lload_n hx hb dX4_shortened_42 rfl (lv_at hl 2 rfl) ?_
    obtain ⟨ru2, hu2, hf⟩ := pn_bd1_at hf
    refine pn_calli [] (va_runS (As := [.long x2]) (rest := [.long ru1]) ⟨hx, hb, hml, hown, hts⟩ (c_X0_pin l D cI cJ cZ H.size x2 ru2 hu2) (va_cwS 1 hts gX4_shortened_X0_pin rfl rfl rfl hdX0_pin ⟨Nat.le_of_ble_eq_true rfl, Nat.le_of_ble_eq_true rfl⟩) (pn_preS [] hP (hD.addr rfl) hK rfl rfl) rfl rfl hl.1 rfl (lv_room (Nat.le_of_ble_eq_true rfl)) dX4_shortened_43 ⟨Nat.zero_le _, Nat.zero_le _⟩) hP (hD.addr rfl) hS hA rfl rfl rfl (fun H locs (hP : va_P D vwCl [(a_t, .inr (3, [.ref a_t_paper, .ref a_t_linked, .ref a_t_caseAt, .ref a_t_reasonAt, .ref a_t_firstSlot, .ref a_t_members, .ref a_t_namedBy, .ref a_t_foundBy, .int v_t_linkedVersion, .int v_t_studiedVersion, .int v_t_present, .int v_t_fulls, .int v_t_cases, .int v_t_cited, .int v_t_alive, .int v_t_dead])), (a_t_caseAt, .inl (cI, 32, .inl r_t_caseAt)), (a_t_firstSlot, .inl (cI, 32, .inl r_t_firstSlot)), (a_t_foundBy, .inl (cI, 8, .inl r_t_foundBy)), (a_t_namedBy, .inl (cI, 6, .inl r_t_namedBy)), (a_t_paper, .inr (0, [.ref a_t_paper_sizes, .ref a_t_paper_cites, .int v_t_paper_notes, .int v_t_paper_version])), (a_t_paper_cites, .inl (cJ, 32, .inr (.inl r_t_paper_cites))), (a_t_paper_sizes, .inl (cI, 8, .inl r_t_paper_sizes))] H) _ hS => ?_)
    obtain ⟨ru3, hu3, hf⟩ := pn_bd1_at hf
    refine pn_calll [] (va_runS (As := [.long ru1, .int ru2]) (rest := []) ⟨hx, hb, hml, hown, hts⟩ (c_X0_withPin l D cI cJ cZ H.size ru1 ru2 ru3 hu3) (va_cwS 2 hts gX4_shortened_X0_withPin rfl rfl rfl hdX0_withPin ⟨Nat.le_of_ble_eq_true rfl, Nat.le_of_ble_eq_true rfl⟩) (pn_preS [] hP (hD.addr rfl) hK rfl rfl) rfl rfl hl.1 rfl (lv_room (Nat.le_of_ble_eq_true rfl)) dX4_shortened_46 ⟨Nat.zero_le _, Nat.zero_le _⟩) hP (hD.addr rfl) hS hA rfl rfl rfl (fun H locs (hP : va_P D vwCl [(a_t, .inr (3, [.ref a_t_paper, .ref a_t_linked, .ref a_t_caseAt, .ref a_t_reasonAt, .ref a_t_firstSlot, .ref a_t_members, .ref a_t_namedBy, .ref a_t_foundBy, .int v_t_linkedVersion, .int v_t_studiedVersion, .int v_t_present, .int v_t_fulls, .int v_t_cases, .int v_t_cited, .int v_t_alive, .int v_t_dead])), (a_t_caseAt, .inl (cI, 32, .inl r_t_caseAt)), (a_t_firstSlot, .inl (cI, 32, .inl r_t_firstSlot)), (a_t_foundBy, .inl (cI, 8, .inl r_t_foundBy)), (a_t_namedBy, .inl (cI, 6, .inl r_t_namedBy)), (a_t_paper, .inr (0, [.ref a_t_paper_sizes, .ref a_t_paper_cites, .int v_t_paper_notes, .int v_t_paper_version])), (a_t_paper_cites, .inl (cJ, 32, .inr (.inl r_t_paper_cites))), (a_t_paper_sizes, .inl (cI, 8, .inl r_t_paper_sizes))] H) _ hS => ?_)
    cases hf
    rw [hQ]
    exact pn_retl hx hb hr hlocks hP hS rfl dX4_shortened_49
  refine lv_aload_n hx hb dX4_shortened_0 rfl (lv_at hl 0 rfl) ?_
  refine va_get (D := D) (ci := 3) (v := .ref a_t_paper) (C := RX4) (T := TX4) (N := 16) hx hb hts hinX4 hown hK.1 hP 0 rfl rfl 0 (by decide) fl_12 (fun _ h9 => h9) rfl dX4_shortened_1 ?_
  refine lv_iload_n hx hb dX4_shortened_4 rfl (lv_at hl 1 rfl) ?_
  obtain ⟨ru4, hu4, hf⟩ := pn_bd1_at hf
  refine pn_calll [5, 6] (va_runV (As := [.int p1]) (rest := []) ⟨hx, hb, hml, hown, hts⟩ (c_X1_cite l D cI cJ cZ a_t_paper a_t_paper_sizes a_t_paper_cites H.size v_t_paper_notes v_t_paper_version r_t_paper_cites p1 ru4 hu4) (cwV 1 hts gX4_shortened_X1_cite rfl rfl rfl hdX1_cite ⟨Nat.le_of_ble_eq_true rfl, Nat.le_of_ble_eq_true rfl⟩) (pn_preV [5, 6] hP (hD.addr rfl) hK rfl rfl (q0 := 5) (ci := 0) rfl rfl) rfl rfl hl.1 rfl (lv_room (Nat.le_of_ble_eq_true rfl)) dX4_shortened_5 ⟨Nat.zero_le _, Nat.zero_le _⟩) hP (hD.addr rfl) hS hA rfl rfl rfl (fun H locs (hP : va_P D vwCl [(a_t, .inr (3, [.ref a_t_paper, .ref a_t_linked, .ref a_t_caseAt, .ref a_t_reasonAt, .ref a_t_firstSlot, .ref a_t_members, .ref a_t_namedBy, .ref a_t_foundBy, .int v_t_linkedVersion, .int v_t_studiedVersion, .int v_t_present, .int v_t_fulls, .int v_t_cases, .int v_t_cited, .int v_t_alive, .int v_t_dead])), (a_t_caseAt, .inl (cI, 32, .inl r_t_caseAt)), (a_t_firstSlot, .inl (cI, 32, .inl r_t_firstSlot)), (a_t_foundBy, .inl (cI, 8, .inl r_t_foundBy)), (a_t_namedBy, .inl (cI, 6, .inl r_t_namedBy)), (a_t_paper, .inr (0, [.ref a_t_paper_sizes, .ref a_t_paper_cites, .int v_t_paper_notes, .int v_t_paper_version])), (a_t_paper_cites, .inl (cJ, 32, .inr (.inl r_t_paper_cites))), (a_t_paper_sizes, .inl (cI, 8, .inl r_t_paper_sizes))] H) _ hS => ?_)
  refine lv_lstore_n (lv' := [(2, .long ru4), (0, .ref a_t), (1, .int p1)]) hx hb dX4_shortened_8 rfl hl (by decide) rfl (fun ls hl => ?_)
  refine lv_aload_n hx hb dX4_shortened_9 rfl (lv_at hl 1 rfl) ?_
  refine lv_iload_n hx hb dX4_shortened_10 rfl (lv_at hl 2 rfl) ?_
  obtain ⟨ru5, hu5, hf⟩ := pn_bd1_at hf
  refine pn_calli [0, 1] (va_runV (As := [.int p1]) (rest := []) ⟨hx, hb, hml, hown, hts⟩ (c_X4_caseOf l D cI cJ cZ a_t a_t_paper a_t_linked a_t_caseAt a_t_reasonAt a_t_firstSlot a_t_members a_t_namedBy a_t_foundBy H.size v_t_linkedVersion v_t_studiedVersion v_t_present v_t_fulls v_t_cases v_t_cited v_t_alive v_t_dead r_t_caseAt p1 ru5 hu5) (cwV 1 hts gX4_shortened_X4_caseOf rfl rfl rfl hdX4_caseOf ⟨Nat.le_of_ble_eq_true rfl, Nat.le_of_ble_eq_true rfl⟩) (pn_preV [0, 1] hP (hD.addr rfl) hK rfl rfl (q0 := 0) (ci := 3) rfl rfl) rfl rfl hl.1 rfl (lv_room (Nat.le_of_ble_eq_true rfl)) dX4_shortened_11 ⟨Nat.zero_le _, Nat.zero_le _⟩) hP (hD.addr rfl) hS hA rfl rfl rfl (fun H locs (hP : va_P D vwCl [(a_t, .inr (3, [.ref a_t_paper, .ref a_t_linked, .ref a_t_caseAt, .ref a_t_reasonAt, .ref a_t_firstSlot, .ref a_t_members, .ref a_t_namedBy, .ref a_t_foundBy, .int v_t_linkedVersion, .int v_t_studiedVersion, .int v_t_present, .int v_t_fulls, .int v_t_cases, .int v_t_cited, .int v_t_alive, .int v_t_dead])), (a_t_caseAt, .inl (cI, 32, .inl r_t_caseAt)), (a_t_firstSlot, .inl (cI, 32, .inl r_t_firstSlot)), (a_t_foundBy, .inl (cI, 8, .inl r_t_foundBy)), (a_t_namedBy, .inl (cI, 6, .inl r_t_namedBy)), (a_t_paper, .inr (0, [.ref a_t_paper_sizes, .ref a_t_paper_cites, .int v_t_paper_notes, .int v_t_paper_version])), (a_t_paper_cites, .inl (cJ, 32, .inr (.inl r_t_paper_cites))), (a_t_paper_sizes, .inl (cI, 8, .inl r_t_paper_sizes))] H) _ hS => ?_)
  refine lv_if_ge (tgt := 19) hx hb dX4_shortened_14 (by decide) (fun c6 => ?_) (fun c6 => ?_)
  · have hf := pn_ifp c6 hf
    refine lv_aload_n hx hb dX4_shortened_19 rfl (lv_at hl 1 rfl) ?_
    refine lv_iload_n hx hb dX4_shortened_20 rfl (lv_at hl 2 rfl) ?_
    obtain ⟨ru7, hu7, hf⟩ := pn_bd1_at hf
    refine pn_calli [0] (va_runV (As := [.int p1]) (rest := []) ⟨hx, hb, hml, hown, hts⟩ (c_X4_isFull l D cI cJ cZ a_t a_t_paper a_t_linked a_t_caseAt a_t_reasonAt a_t_firstSlot a_t_members a_t_namedBy a_t_foundBy H.size v_t_linkedVersion v_t_studiedVersion v_t_present v_t_cases v_t_cited v_t_alive v_t_dead v_t_fulls p1 ru7 hu7) (cwV 1 hts gX4_shortened_X4_isFull rfl rfl rfl hdX4_isFull ⟨Nat.le_of_ble_eq_true rfl, Nat.le_of_ble_eq_true rfl⟩) (pn_preV [0] hP (hD.addr rfl) hK rfl rfl (q0 := 0) (ci := 3) rfl rfl) rfl rfl hl.1 rfl (lv_room (Nat.le_of_ble_eq_true rfl)) dX4_shortened_21 ⟨Nat.zero_le _, Nat.zero_le _⟩) hP (hD.addr rfl) hS hA rfl rfl rfl (fun H locs (hP : va_P D vwCl [(a_t, .inr (3, [.ref a_t_paper, .ref a_t_linked, .ref a_t_caseAt, .ref a_t_reasonAt, .ref a_t_firstSlot, .ref a_t_members, .ref a_t_namedBy, .ref a_t_foundBy, .int v_t_linkedVersion, .int v_t_studiedVersion, .int v_t_present, .int v_t_fulls, .int v_t_cases, .int v_t_cited, .int v_t_alive, .int v_t_dead])), (a_t_caseAt, .inl (cI, 32, .inl r_t_caseAt)), (a_t_firstSlot, .inl (cI, 32, .inl r_t_firstSlot)), (a_t_foundBy, .inl (cI, 8, .inl r_t_foundBy)), (a_t_namedBy, .inl (cI, 6, .inl r_t_namedBy)), (a_t_paper, .inr (0, [.ref a_t_paper_sizes, .ref a_t_paper_cites, .int v_t_paper_notes, .int v_t_paper_version])), (a_t_paper_cites, .inl (cJ, 32, .inr (.inl r_t_paper_cites))), (a_t_paper_sizes, .inl (cI, 8, .inl r_t_paper_sizes))] H) _ hS => ?_)
    refine lv_if_eq (tgt := 37) hx hb dX4_shortened_24 (by decide) (fun c8 => ?_) (fun c8 => ?_)
    · have hf := pn_ifp c8 hf
      exact jn37 ru4 H locs ls hf hP hS (lv_sub hl [1, 2, 0] rfl)
    · have hf := pn_ifn c8 hf
      refine lv_aload_n hx hb dX4_shortened_27 rfl (lv_at hl 1 rfl) ?_
      refine lv_iload_n hx hb dX4_shortened_28 rfl (lv_at hl 2 rfl) ?_
      obtain ⟨ru9, hu9, hf⟩ := pn_bd1_at hf
      refine pn_calli [0, 5, 6] (va_runV (As := [.int p1]) (rest := []) ⟨hx, hb, hml, hown, hts⟩ (c_X4_isCoveredBefore l D cI cJ cZ a_t a_t_paper a_t_linked a_t_caseAt a_t_reasonAt a_t_firstSlot a_t_members a_t_namedBy a_t_foundBy a_t_paper_sizes a_t_paper_cites H.size v_t_linkedVersion v_t_studiedVersion v_t_present v_t_cases v_t_cited v_t_alive v_t_dead v_t_paper_notes v_t_paper_version N v_t_fulls r_t_paper_cites p1 ru9 hu9) (cwV 1 hts gX4_shortened_X4_isCoveredBefore rfl rfl rfl hdX4_isCoveredBefore ⟨Nat.le_of_ble_eq_true rfl, Nat.le_of_ble_eq_true rfl⟩) (pn_preV [0, 5, 6] hP (hD.addr rfl) hK rfl rfl (q0 := 0) (ci := 3) rfl rfl) rfl rfl hl.1 rfl (lv_room (Nat.le_of_ble_eq_true rfl)) dX4_shortened_29 ⟨Nat.zero_le _, Nat.zero_le _⟩) hP (hD.addr rfl) hS hA rfl rfl rfl (fun H locs (hP : va_P D vwCl [(a_t, .inr (3, [.ref a_t_paper, .ref a_t_linked, .ref a_t_caseAt, .ref a_t_reasonAt, .ref a_t_firstSlot, .ref a_t_members, .ref a_t_namedBy, .ref a_t_foundBy, .int v_t_linkedVersion, .int v_t_studiedVersion, .int v_t_present, .int v_t_fulls, .int v_t_cases, .int v_t_cited, .int v_t_alive, .int v_t_dead])), (a_t_caseAt, .inl (cI, 32, .inl r_t_caseAt)), (a_t_firstSlot, .inl (cI, 32, .inl r_t_firstSlot)), (a_t_foundBy, .inl (cI, 8, .inl r_t_foundBy)), (a_t_namedBy, .inl (cI, 6, .inl r_t_namedBy)), (a_t_paper, .inr (0, [.ref a_t_paper_sizes, .ref a_t_paper_cites, .int v_t_paper_notes, .int v_t_paper_version])), (a_t_paper_cites, .inl (cJ, 32, .inr (.inl r_t_paper_cites))), (a_t_paper_sizes, .inl (cI, 8, .inl r_t_paper_sizes))] H) _ hS => ?_)
      refine lv_if_ne (tgt := 37) hx hb dX4_shortened_32 (by decide) (fun c10 => ?_) (fun c10 => ?_)
      · have hf := pn_ifp c10 hf
        exact jn37 ru4 H locs ls hf hP hS (lv_sub hl [1, 2, 0] rfl)
      · have hf := pn_ifq c10 hf
        refine lv_lload_n hx hb dX4_shortened_35 rfl (lv_at hl 0 rfl) ?_
        cases hf
        rw [hQ]
        exact pn_retl hx hb hr hlocks hP hS rfl dX4_shortened_36
  · have hf := pn_ifn c6 hf
    refine lv_lload_n hx hb dX4_shortened_17 rfl (lv_at hl 0 rfl) ?_
    cases hf
    rw [hQ]
    exact pn_retl hx hb hr hlocks hP hS rfl dX4_shortened_18
def f_X4_performShortening (N : Nat) (v_t_fulls : Int32) (v_t_cases : Int32) (r_t_caseAt : Nat → Int32) (r_t_firstSlot : Nat → Int32) (r_t_foundBy : Nat → Int32) (r_t_namedBy : Nat → Int32) (v_t_paper_notes : Int32) (v_t_paper_version : Int32) (r_t_paper_cites : Nat → Int64) (r_t_paper_sizes : Nat → Int32) (p1 : Int32) (p2 : Int32) : Option (Int32 × Int32 × (Nat → Int64)) :=
  pn_bd1 (f_X1_slotOf p1 p2) fun ru1 =>
  pn_bd1 (f_X1_hasReference v_t_paper_notes r_t_paper_sizes p1 p2) fun ru2 =>
  if ru2 = 0 then
  some ((0 : Int32), v_t_paper_version, r_t_paper_cites)
  else
  pn_bd1 (f_X4_caseOf r_t_caseAt ru1) fun ru4 =>
  if 0 ≤ ru4 then
  pn_bd1 (f_X4_shortened N v_t_fulls v_t_cases r_t_caseAt r_t_firstSlot r_t_foundBy r_t_namedBy v_t_paper_notes r_t_paper_cites r_t_paper_sizes ru1) fun ru6 =>
  pn_bd2 (f_X1_replaceCite v_t_paper_version r_t_paper_cites ru1 ru6) fun v_t_paper_version_u7 r_t_paper_cites_u7 =>
  some ((1 : Int32), v_t_paper_version_u7, r_t_paper_cites_u7)
  else
  some ((0 : Int32), v_t_paper_version, r_t_paper_cites)
set_option maxHeartbeats 4000000 in
set_option maxRecDepth 100000 in
theorem c_X4_performShortening (l : Launch) (D : va_G) (cI cJ cZ : ClassId) (a_t a_t_paper a_t_linked a_t_caseAt a_t_reasonAt a_t_firstSlot a_t_members a_t_namedBy a_t_foundBy a_t_paper_sizes a_t_paper_cites : Nat) (sz : Nat) (v_t_linkedVersion : Int32) (v_t_studiedVersion : Int32) (v_t_present : Int32) (v_t_cited : Int32) (v_t_alive : Int32) (v_t_dead : Int32) (N : Nat) (v_t_fulls : Int32) (v_t_cases : Int32) (r_t_caseAt : Nat → Int32) (r_t_firstSlot : Nat → Int32) (r_t_foundBy : Nat → Int32) (r_t_namedBy : Nat → Int32) (v_t_paper_notes : Int32) (v_t_paper_version : Int32) (r_t_paper_cites : Nat → Int64) (r_t_paper_sizes : Nat → Int32) (p1 : Int32) (p2 : Int32) (rR : Int32) (o_t_paper_version : Int32) (o_t_paper_cites : Nat → Int64) (hf : f_X4_performShortening N v_t_fulls v_t_cases r_t_caseAt r_t_firstSlot r_t_foundBy r_t_namedBy v_t_paper_notes v_t_paper_version r_t_paper_cites r_t_paper_sizes p1 p2 = some (rR, o_t_paper_version, o_t_paper_cites)) : Met l yX4_performShortening wsX4_performShortening { frames := 4, cells := 0, slots := 0, locals := 94 } (pn_Pc D cI cJ cZ [.ref a_t, .int p1, .int p2] [(a_t, .inr (3, [.ref a_t_paper, .ref a_t_linked, .ref a_t_caseAt, .ref a_t_reasonAt, .ref a_t_firstSlot, .ref a_t_members, .ref a_t_namedBy, .ref a_t_foundBy, .int v_t_linkedVersion, .int v_t_studiedVersion, .int v_t_present, .int v_t_fulls, .int v_t_cases, .int v_t_cited, .int v_t_alive, .int v_t_dead])), (a_t_caseAt, .inl (cI, 32, .inl r_t_caseAt)), (a_t_firstSlot, .inl (cI, 32, .inl r_t_firstSlot)), (a_t_foundBy, .inl (cI, 8, .inl r_t_foundBy)), (a_t_namedBy, .inl (cI, 6, .inl r_t_namedBy)), (a_t_paper, .inr (0, [.ref a_t_paper_sizes, .ref a_t_paper_cites, .int v_t_paper_notes, .int v_t_paper_version])), (a_t_paper_cites, .inl (cJ, 32, .inr (.inl r_t_paper_cites))), (a_t_paper_sizes, .inl (cI, 8, .inl r_t_paper_sizes))] sz) (pn_Qi D rR [(a_t, .inr (3, [.ref a_t_paper, .ref a_t_linked, .ref a_t_caseAt, .ref a_t_reasonAt, .ref a_t_firstSlot, .ref a_t_members, .ref a_t_namedBy, .ref a_t_foundBy, .int v_t_linkedVersion, .int v_t_studiedVersion, .int v_t_present, .int v_t_fulls, .int v_t_cases, .int v_t_cited, .int v_t_alive, .int v_t_dead])), (a_t_caseAt, .inl (cI, 32, .inl r_t_caseAt)), (a_t_firstSlot, .inl (cI, 32, .inl r_t_firstSlot)), (a_t_foundBy, .inl (cI, 8, .inl r_t_foundBy)), (a_t_namedBy, .inl (cI, 6, .inl r_t_namedBy)), (a_t_paper, .inr (0, [.ref a_t_paper_sizes, .ref a_t_paper_cites, .int v_t_paper_notes, .int o_t_paper_version])), (a_t_paper_cites, .inl (cJ, 32, .inr (.inl o_t_paper_cites))), (a_t_paper_sizes, .inl (cI, 8, .inl r_t_paper_sizes))] (va_A [(a_t, .inr (3, [.ref a_t_paper, .ref a_t_linked, .ref a_t_caseAt, .ref a_t_reasonAt, .ref a_t_firstSlot, .ref a_t_members, .ref a_t_namedBy, .ref a_t_foundBy, .int v_t_linkedVersion, .int v_t_studiedVersion, .int v_t_present, .int v_t_fulls, .int v_t_cases, .int v_t_cited, .int v_t_alive, .int v_t_dead])), (a_t_caseAt, .inl (cI, 32, .inl r_t_caseAt)), (a_t_firstSlot, .inl (cI, 32, .inl r_t_firstSlot)), (a_t_foundBy, .inl (cI, 8, .inl r_t_foundBy)), (a_t_namedBy, .inl (cI, 6, .inl r_t_namedBy)), (a_t_paper, .inr (0, [.ref a_t_paper_sizes, .ref a_t_paper_cites, .int v_t_paper_notes, .int v_t_paper_version])), (a_t_paper_cites, .inl (cJ, 32, .inr (.inl r_t_paper_cites))), (a_t_paper_sizes, .inl (cI, 8, .inl r_t_paper_sizes))] sz)) 0 0 (va_A [(a_t, .inr (3, [.ref a_t_paper, .ref a_t_linked, .ref a_t_caseAt, .ref a_t_reasonAt, .ref a_t_firstSlot, .ref a_t_members, .ref a_t_namedBy, .ref a_t_foundBy, .int v_t_linkedVersion, .int v_t_studiedVersion, .int v_t_present, .int v_t_fulls, .int v_t_cases, .int v_t_cited, .int v_t_alive, .int v_t_dead])), (a_t_caseAt, .inl (cI, 32, .inl r_t_caseAt)), (a_t_firstSlot, .inl (cI, 32, .inl r_t_firstSlot)), (a_t_foundBy, .inl (cI, 8, .inl r_t_foundBy)), (a_t_namedBy, .inl (cI, 6, .inl r_t_namedBy)), (a_t_paper, .inr (0, [.ref a_t_paper_sizes, .ref a_t_paper_cites, .int v_t_paper_notes, .int v_t_paper_version])), (a_t_paper_cites, .inl (cJ, 32, .inr (.inl r_t_paper_cites))), (a_t_paper_sizes, .inl (cI, 8, .inl r_t_paper_sizes))] sz) := by
  refine pn_entry (cc := cX4_performShortening) (maxL := 4) (ret := (some .boolean)) (Qf := pn_Qi D rR [(a_t, .inr (3, [.ref a_t_paper, .ref a_t_linked, .ref a_t_caseAt, .ref a_t_reasonAt, .ref a_t_firstSlot, .ref a_t_members, .ref a_t_namedBy, .ref a_t_foundBy, .int v_t_linkedVersion, .int v_t_studiedVersion, .int v_t_present, .int v_t_fulls, .int v_t_cases, .int v_t_cited, .int v_t_alive, .int v_t_dead])), (a_t_caseAt, .inl (cI, 32, .inl r_t_caseAt)), (a_t_firstSlot, .inl (cI, 32, .inl r_t_firstSlot)), (a_t_foundBy, .inl (cI, 8, .inl r_t_foundBy)), (a_t_namedBy, .inl (cI, 6, .inl r_t_namedBy)), (a_t_paper, .inr (0, [.ref a_t_paper_sizes, .ref a_t_paper_cites, .int v_t_paper_notes, .int o_t_paper_version])), (a_t_paper_cites, .inl (cJ, 32, .inr (.inl o_t_paper_cites))), (a_t_paper_sizes, .inl (cI, 8, .inl r_t_paper_sizes))]) (by decide) rfl (Nat.le_of_ble_eq_true rfl) ?_
  intro p e s m args below meth c A ls H locs Qm hQ hx hb hr hlocks hml hown hts hK hP hD hA hS hl
  have hl : lv_has ls 4 [(0, .ref a_t), (1, .int p1), (2, .int p2)] := hl
  have hinX4 : ∀ w ∈ wsX40, w ∈ wsX4_performShortening := by decide +kernel
  have fl_12 := hts (.fieldLink RX4 12 "PointingNotes$Study" "paper" "LPointingNotes$Paper;") (by decide +kernel)
  rw [f_X4_performShortening] at hf
  refine lv_iload_n hx hb dX4_performShortening_0 rfl (lv_at hl 1 rfl) ?_
  refine lv_iload_n hx hb dX4_performShortening_1 rfl (lv_at hl 2 rfl) ?_
  obtain ⟨ru1, hu1, hf⟩ := pn_bd1_at hf
  refine pn_calli [] (va_runS (As := [.int p1, .int p2]) (rest := []) ⟨hx, hb, hml, hown, hts⟩ (c_X1_slotOf l D cI cJ cZ H.size p1 p2 ru1 hu1) (va_cwS 2 hts gX4_performShortening_X1_slotOf rfl rfl rfl hdX1_slotOf ⟨Nat.le_of_ble_eq_true rfl, Nat.le_of_ble_eq_true rfl⟩) (pn_preS [] hP (hD.addr rfl) hK rfl rfl) rfl rfl hl.1 rfl (lv_room (Nat.le_of_ble_eq_true rfl)) dX4_performShortening_2 ⟨Nat.zero_le _, Nat.zero_le _⟩) hP (hD.addr rfl) hS hA rfl rfl rfl (fun H locs (hP : va_P D vwCl [(a_t, .inr (3, [.ref a_t_paper, .ref a_t_linked, .ref a_t_caseAt, .ref a_t_reasonAt, .ref a_t_firstSlot, .ref a_t_members, .ref a_t_namedBy, .ref a_t_foundBy, .int v_t_linkedVersion, .int v_t_studiedVersion, .int v_t_present, .int v_t_fulls, .int v_t_cases, .int v_t_cited, .int v_t_alive, .int v_t_dead])), (a_t_caseAt, .inl (cI, 32, .inl r_t_caseAt)), (a_t_firstSlot, .inl (cI, 32, .inl r_t_firstSlot)), (a_t_foundBy, .inl (cI, 8, .inl r_t_foundBy)), (a_t_namedBy, .inl (cI, 6, .inl r_t_namedBy)), (a_t_paper, .inr (0, [.ref a_t_paper_sizes, .ref a_t_paper_cites, .int v_t_paper_notes, .int v_t_paper_version])), (a_t_paper_cites, .inl (cJ, 32, .inr (.inl r_t_paper_cites))), (a_t_paper_sizes, .inl (cI, 8, .inl r_t_paper_sizes))] H) _ hS => ?_)
  refine lv_istore_n (lv' := [(3, .int ru1), (0, .ref a_t), (1, .int p1), (2, .int p2)]) hx hb dX4_performShortening_5 rfl hl (by decide) rfl (fun ls hl => ?_)
  refine lv_aload_n hx hb dX4_performShortening_6 rfl (lv_at hl 1 rfl) ?_
  refine va_get (D := D) (ci := 3) (v := .ref a_t_paper) (C := RX4) (T := TX4) (N := 16) hx hb hts hinX4 hown hK.1 hP 0 rfl rfl 0 (by decide) fl_12 (fun _ h9 => h9) rfl dX4_performShortening_7 ?_
  refine lv_iload_n hx hb dX4_performShortening_10 rfl (lv_at hl 2 rfl) ?_
  refine lv_iload_n hx hb dX4_performShortening_11 rfl (lv_at hl 3 rfl) ?_
  obtain ⟨ru2, hu2, hf⟩ := pn_bd1_at hf
  refine pn_calli [5, 7] (va_runV (As := [.int p1, .int p2]) (rest := []) ⟨hx, hb, hml, hown, hts⟩ (c_X1_hasReference l D cI cJ cZ a_t_paper a_t_paper_sizes a_t_paper_cites H.size v_t_paper_version v_t_paper_notes r_t_paper_sizes p1 p2 ru2 hu2) (cwV 2 hts gX4_performShortening_X1_hasReference rfl rfl rfl hdX1_hasReference ⟨Nat.le_of_ble_eq_true rfl, Nat.le_of_ble_eq_true rfl⟩) (pn_preV [5, 7] hP (hD.addr rfl) hK rfl rfl (q0 := 5) (ci := 0) rfl rfl) rfl rfl hl.1 rfl (lv_room (Nat.le_of_ble_eq_true rfl)) dX4_performShortening_12 ⟨Nat.zero_le _, Nat.zero_le _⟩) hP (hD.addr rfl) hS hA rfl rfl rfl (fun H locs (hP : va_P D vwCl [(a_t, .inr (3, [.ref a_t_paper, .ref a_t_linked, .ref a_t_caseAt, .ref a_t_reasonAt, .ref a_t_firstSlot, .ref a_t_members, .ref a_t_namedBy, .ref a_t_foundBy, .int v_t_linkedVersion, .int v_t_studiedVersion, .int v_t_present, .int v_t_fulls, .int v_t_cases, .int v_t_cited, .int v_t_alive, .int v_t_dead])), (a_t_caseAt, .inl (cI, 32, .inl r_t_caseAt)), (a_t_firstSlot, .inl (cI, 32, .inl r_t_firstSlot)), (a_t_foundBy, .inl (cI, 8, .inl r_t_foundBy)), (a_t_namedBy, .inl (cI, 6, .inl r_t_namedBy)), (a_t_paper, .inr (0, [.ref a_t_paper_sizes, .ref a_t_paper_cites, .int v_t_paper_notes, .int v_t_paper_version])), (a_t_paper_cites, .inl (cJ, 32, .inr (.inl r_t_paper_cites))), (a_t_paper_sizes, .inl (cI, 8, .inl r_t_paper_sizes))] H) _ hS => ?_)
  refine lv_if_eq (tgt := 26) hx hb dX4_performShortening_15 (by decide) (fun c3 => ?_) (fun c3 => ?_)
  · have hf := pn_ifp c3 hf
    refine lv_iconst (v := (0)) hx hb dX4_performShortening_26 (by decide) ?_
    cases hf
    rw [hQ]
    exact pn_retz hx hb hr hlocks hP hS rfl rfl dX4_performShortening_27
  · have hf := pn_ifn c3 hf
    refine lv_aload_n hx hb dX4_performShortening_18 rfl (lv_at hl 1 rfl) ?_
    refine lv_iload_n hx hb dX4_performShortening_19 rfl (lv_at hl 0 rfl) ?_
    obtain ⟨ru4, hu4, hf⟩ := pn_bd1_at hf
    refine pn_calli [0, 1] (va_runV (As := [.int ru1]) (rest := []) ⟨hx, hb, hml, hown, hts⟩ (c_X4_caseOf l D cI cJ cZ a_t a_t_paper a_t_linked a_t_caseAt a_t_reasonAt a_t_firstSlot a_t_members a_t_namedBy a_t_foundBy H.size v_t_linkedVersion v_t_studiedVersion v_t_present v_t_fulls v_t_cases v_t_cited v_t_alive v_t_dead r_t_caseAt ru1 ru4 hu4) (cwV 1 hts gX4_performShortening_X4_caseOf rfl rfl rfl hdX4_caseOf ⟨Nat.le_of_ble_eq_true rfl, Nat.le_of_ble_eq_true rfl⟩) (pn_preV [0, 1] hP (hD.addr rfl) hK rfl rfl (q0 := 0) (ci := 3) rfl rfl) rfl rfl hl.1 rfl (lv_room (Nat.le_of_ble_eq_true rfl)) dX4_performShortening_20 ⟨Nat.zero_le _, Nat.zero_le _⟩) hP (hD.addr rfl) hS hA rfl rfl rfl (fun H locs (hP : va_P D vwCl [(a_t, .inr (3, [.ref a_t_paper, .ref a_t_linked, .ref a_t_caseAt, .ref a_t_reasonAt, .ref a_t_firstSlot, .ref a_t_members, .ref a_t_namedBy, .ref a_t_foundBy, .int v_t_linkedVersion, .int v_t_studiedVersion, .int v_t_present, .int v_t_fulls, .int v_t_cases, .int v_t_cited, .int v_t_alive, .int v_t_dead])), (a_t_caseAt, .inl (cI, 32, .inl r_t_caseAt)), (a_t_firstSlot, .inl (cI, 32, .inl r_t_firstSlot)), (a_t_foundBy, .inl (cI, 8, .inl r_t_foundBy)), (a_t_namedBy, .inl (cI, 6, .inl r_t_namedBy)), (a_t_paper, .inr (0, [.ref a_t_paper_sizes, .ref a_t_paper_cites, .int v_t_paper_notes, .int v_t_paper_version])), (a_t_paper_cites, .inl (cJ, 32, .inr (.inl r_t_paper_cites))), (a_t_paper_sizes, .inl (cI, 8, .inl r_t_paper_sizes))] H) _ hS => ?_)
    refine lv_if_ge (tgt := 28) hx hb dX4_performShortening_23 (by decide) (fun c5 => ?_) (fun c5 => ?_)
    · have hf := pn_ifp c5 hf
      refine lv_aload_n hx hb dX4_performShortening_28 rfl (lv_at hl 1 rfl) ?_
      refine va_get (D := D) (ci := 3) (v := .ref a_t_paper) (C := RX4) (T := TX4) (N := 16) hx hb hts hinX4 hown hK.1 hP 0 rfl rfl 0 (by decide) fl_12 (fun _ h9 => h9) rfl dX4_performShortening_29 ?_
      refine lv_iload_n hx hb dX4_performShortening_32 rfl (lv_at hl 0 rfl) ?_
      refine lv_aload_n hx hb dX4_performShortening_33 rfl (lv_at hl 1 rfl) ?_
      refine lv_iload_n hx hb dX4_performShortening_34 rfl (lv_at hl 0 rfl) ?_
      obtain ⟨ru6, hu6, hf⟩ := pn_bd1_at hf
      refine pn_calll [0, 1, 2, 3, 4, 5, 6, 7] (va_runV (As := [.int ru1]) (rest := [.int ru1, .ref a_t_paper]) ⟨hx, hb, hml, hown, hts⟩ (c_X4_shortened l D cI cJ cZ a_t a_t_paper a_t_linked a_t_caseAt a_t_reasonAt a_t_firstSlot a_t_members a_t_namedBy a_t_foundBy a_t_paper_sizes a_t_paper_cites H.size v_t_linkedVersion v_t_studiedVersion v_t_present v_t_cited v_t_alive v_t_dead v_t_paper_version N v_t_fulls v_t_cases r_t_caseAt r_t_firstSlot r_t_foundBy r_t_namedBy v_t_paper_notes r_t_paper_cites r_t_paper_sizes ru1 ru6 hu6) (cwV 1 hts gX4_performShortening_X4_shortened rfl rfl rfl hdX4_shortened ⟨Nat.le_of_ble_eq_true rfl, Nat.le_of_ble_eq_true rfl⟩) (pn_preV [0, 1, 2, 3, 4, 5, 6, 7] hP (hD.addr rfl) hK rfl rfl (q0 := 0) (ci := 3) rfl rfl) rfl rfl hl.1 rfl (lv_room (Nat.le_of_ble_eq_true rfl)) dX4_performShortening_35 ⟨Nat.zero_le _, Nat.zero_le _⟩) hP (hD.addr rfl) hS hA rfl rfl rfl (fun H locs (hP : va_P D vwCl [(a_t, .inr (3, [.ref a_t_paper, .ref a_t_linked, .ref a_t_caseAt, .ref a_t_reasonAt, .ref a_t_firstSlot, .ref a_t_members, .ref a_t_namedBy, .ref a_t_foundBy, .int v_t_linkedVersion, .int v_t_studiedVersion, .int v_t_present, .int v_t_fulls, .int v_t_cases, .int v_t_cited, .int v_t_alive, .int v_t_dead])), (a_t_caseAt, .inl (cI, 32, .inl r_t_caseAt)), (a_t_firstSlot, .inl (cI, 32, .inl r_t_firstSlot)), (a_t_foundBy, .inl (cI, 8, .inl r_t_foundBy)), (a_t_namedBy, .inl (cI, 6, .inl r_t_namedBy)), (a_t_paper, .inr (0, [.ref a_t_paper_sizes, .ref a_t_paper_cites, .int v_t_paper_notes, .int v_t_paper_version])), (a_t_paper_cites, .inl (cJ, 32, .inr (.inl r_t_paper_cites))), (a_t_paper_sizes, .inl (cI, 8, .inl r_t_paper_sizes))] H) _ hS => ?_)
      obtain ⟨v_t_paper_version_u7, r_t_paper_cites_u7, hu7, hf⟩ := pn_bd2_at hf
      refine pn_callv [5, 6] (va_runV (As := [.int ru1, .long ru6]) (rest := []) ⟨hx, hb, hml, hown, hts⟩ (c_X1_replaceCite l D cI cJ cZ a_t_paper a_t_paper_sizes a_t_paper_cites H.size v_t_paper_notes v_t_paper_version r_t_paper_cites ru1 ru6 v_t_paper_version_u7 r_t_paper_cites_u7 hu7) (cwV 2 hts gX4_performShortening_X1_replaceCite rfl rfl rfl hdX1_replaceCite ⟨Nat.le_of_ble_eq_true rfl, Nat.le_of_ble_eq_true rfl⟩) (pn_preV [5, 6] hP (hD.addr rfl) hK rfl rfl (q0 := 5) (ci := 0) rfl rfl) rfl rfl hl.1 rfl (lv_room (Nat.le_of_ble_eq_true rfl)) dX4_performShortening_38 ⟨Nat.zero_le _, Nat.zero_le _⟩) hP (hD.addr rfl) hS hA rfl rfl rfl (fun H locs (hP : va_P D vwCl [(a_t, .inr (3, [.ref a_t_paper, .ref a_t_linked, .ref a_t_caseAt, .ref a_t_reasonAt, .ref a_t_firstSlot, .ref a_t_members, .ref a_t_namedBy, .ref a_t_foundBy, .int v_t_linkedVersion, .int v_t_studiedVersion, .int v_t_present, .int v_t_fulls, .int v_t_cases, .int v_t_cited, .int v_t_alive, .int v_t_dead])), (a_t_caseAt, .inl (cI, 32, .inl r_t_caseAt)), (a_t_firstSlot, .inl (cI, 32, .inl r_t_firstSlot)), (a_t_foundBy, .inl (cI, 8, .inl r_t_foundBy)), (a_t_namedBy, .inl (cI, 6, .inl r_t_namedBy)), (a_t_paper, .inr (0, [.ref a_t_paper_sizes, .ref a_t_paper_cites, .int v_t_paper_notes, .int v_t_paper_version_u7])), (a_t_paper_cites, .inl (cJ, 32, .inr (.inl r_t_paper_cites_u7))), (a_t_paper_sizes, .inl (cI, 8, .inl r_t_paper_sizes))] H) _ hS => ?_)
      refine lv_iconst (v := (1)) hx hb dX4_performShortening_41 (by decide) ?_
      cases hf
      rw [hQ]
      exact pn_retz hx hb hr hlocks hP hS rfl rfl dX4_performShortening_42
    · have hf := pn_ifn c5 hf
      refine lv_iconst (v := (0)) hx hb dX4_performShortening_26 (by decide) ?_
      cases hf
      rw [hQ]
      exact pn_retz hx hb hr hlocks hP hS rfl rfl dX4_performShortening_27
def f_X4_performCut (N : Nat) (v_t_paper_notes : Int32) (v_t_paper_version : Int32) (r_t_paper_cites : Nat → Int64) (r_t_paper_sizes : Nat → Int32) (p1 : Int32) (p2 : Int32) (p3 : Int32) : Option (Int32 × Int32 × Int32 × (Nat → Int64) × (Nat → Int32)) :=
  pn_bd1 (f_X1_hasNote v_t_paper_notes p1) fun ru1 =>
  if ru1 = 0 then
  some ((0 : Int32), v_t_paper_notes, v_t_paper_version, r_t_paper_cites, r_t_paper_sizes)
  else
  pn_bd1 (f_X6_isMend p2) fun ru3 =>
  if ru3 = 0 then
  some ((0 : Int32), v_t_paper_notes, v_t_paper_version, r_t_paper_cites, r_t_paper_sizes)
  else
  if p3 = 0 then
  pn_bd4 (f_X1_dropNote N v_t_paper_notes v_t_paper_version r_t_paper_cites r_t_paper_sizes p1 p2) fun v_t_paper_notes_u6 v_t_paper_version_u6 r_t_paper_cites_u6 r_t_paper_sizes_u6 =>
  some ((1 : Int32), v_t_paper_notes_u6, v_t_paper_version_u6, r_t_paper_cites_u6, r_t_paper_sizes_u6)
  else
  some ((0 : Int32), v_t_paper_notes, v_t_paper_version, r_t_paper_cites, r_t_paper_sizes)
set_option maxHeartbeats 4000000 in
set_option maxRecDepth 100000 in
theorem c_X4_performCut (l : Launch) (D : va_G) (cI cJ cZ : ClassId) (a_t a_t_paper a_t_linked a_t_caseAt a_t_reasonAt a_t_firstSlot a_t_members a_t_namedBy a_t_foundBy a_t_paper_sizes a_t_paper_cites : Nat) (sz : Nat) (v_t_linkedVersion : Int32) (v_t_studiedVersion : Int32) (v_t_present : Int32) (v_t_fulls : Int32) (v_t_cases : Int32) (v_t_cited : Int32) (v_t_alive : Int32) (v_t_dead : Int32) (N : Nat) (v_t_paper_notes : Int32) (v_t_paper_version : Int32) (r_t_paper_cites : Nat → Int64) (r_t_paper_sizes : Nat → Int32) (p1 : Int32) (p2 : Int32) (p3 : Int32) (rR : Int32) (o_t_paper_notes : Int32) (o_t_paper_version : Int32) (o_t_paper_cites : Nat → Int64) (o_t_paper_sizes : Nat → Int32) (hf : f_X4_performCut N v_t_paper_notes v_t_paper_version r_t_paper_cites r_t_paper_sizes p1 p2 p3 = some (rR, o_t_paper_notes, o_t_paper_version, o_t_paper_cites, o_t_paper_sizes)) : Met l yX4_performCut wsX4_performCut { frames := 4, cells := 0, slots := 0, locals := 92 } (pn_Pc D cI cJ cZ [.ref a_t, .int p1, .int p2, .int p3] [(a_t, .inr (3, [.ref a_t_paper, .ref a_t_linked, .ref a_t_caseAt, .ref a_t_reasonAt, .ref a_t_firstSlot, .ref a_t_members, .ref a_t_namedBy, .ref a_t_foundBy, .int v_t_linkedVersion, .int v_t_studiedVersion, .int v_t_present, .int v_t_fulls, .int v_t_cases, .int v_t_cited, .int v_t_alive, .int v_t_dead])), (a_t_paper, .inr (0, [.ref a_t_paper_sizes, .ref a_t_paper_cites, .int v_t_paper_notes, .int v_t_paper_version])), (a_t_paper_cites, .inl (cJ, 32, .inr (.inl r_t_paper_cites))), (a_t_paper_sizes, .inl (cI, 8, .inl r_t_paper_sizes))] sz) (pn_Qi D rR [(a_t, .inr (3, [.ref a_t_paper, .ref a_t_linked, .ref a_t_caseAt, .ref a_t_reasonAt, .ref a_t_firstSlot, .ref a_t_members, .ref a_t_namedBy, .ref a_t_foundBy, .int v_t_linkedVersion, .int v_t_studiedVersion, .int v_t_present, .int v_t_fulls, .int v_t_cases, .int v_t_cited, .int v_t_alive, .int v_t_dead])), (a_t_paper, .inr (0, [.ref a_t_paper_sizes, .ref a_t_paper_cites, .int o_t_paper_notes, .int o_t_paper_version])), (a_t_paper_cites, .inl (cJ, 32, .inr (.inl o_t_paper_cites))), (a_t_paper_sizes, .inl (cI, 8, .inl o_t_paper_sizes))] (va_A [(a_t, .inr (3, [.ref a_t_paper, .ref a_t_linked, .ref a_t_caseAt, .ref a_t_reasonAt, .ref a_t_firstSlot, .ref a_t_members, .ref a_t_namedBy, .ref a_t_foundBy, .int v_t_linkedVersion, .int v_t_studiedVersion, .int v_t_present, .int v_t_fulls, .int v_t_cases, .int v_t_cited, .int v_t_alive, .int v_t_dead])), (a_t_paper, .inr (0, [.ref a_t_paper_sizes, .ref a_t_paper_cites, .int v_t_paper_notes, .int v_t_paper_version])), (a_t_paper_cites, .inl (cJ, 32, .inr (.inl r_t_paper_cites))), (a_t_paper_sizes, .inl (cI, 8, .inl r_t_paper_sizes))] sz)) 0 0 (va_A [(a_t, .inr (3, [.ref a_t_paper, .ref a_t_linked, .ref a_t_caseAt, .ref a_t_reasonAt, .ref a_t_firstSlot, .ref a_t_members, .ref a_t_namedBy, .ref a_t_foundBy, .int v_t_linkedVersion, .int v_t_studiedVersion, .int v_t_present, .int v_t_fulls, .int v_t_cases, .int v_t_cited, .int v_t_alive, .int v_t_dead])), (a_t_paper, .inr (0, [.ref a_t_paper_sizes, .ref a_t_paper_cites, .int v_t_paper_notes, .int v_t_paper_version])), (a_t_paper_cites, .inl (cJ, 32, .inr (.inl r_t_paper_cites))), (a_t_paper_sizes, .inl (cI, 8, .inl r_t_paper_sizes))] sz) := by
  refine pn_entry (cc := cX4_performCut) (maxL := 4) (ret := (some .boolean)) (Qf := pn_Qi D rR [(a_t, .inr (3, [.ref a_t_paper, .ref a_t_linked, .ref a_t_caseAt, .ref a_t_reasonAt, .ref a_t_firstSlot, .ref a_t_members, .ref a_t_namedBy, .ref a_t_foundBy, .int v_t_linkedVersion, .int v_t_studiedVersion, .int v_t_present, .int v_t_fulls, .int v_t_cases, .int v_t_cited, .int v_t_alive, .int v_t_dead])), (a_t_paper, .inr (0, [.ref a_t_paper_sizes, .ref a_t_paper_cites, .int o_t_paper_notes, .int o_t_paper_version])), (a_t_paper_cites, .inl (cJ, 32, .inr (.inl o_t_paper_cites))), (a_t_paper_sizes, .inl (cI, 8, .inl o_t_paper_sizes))]) (by decide) rfl (Nat.le_of_ble_eq_true rfl) ?_
  intro p e s m args below meth c A ls H locs Qm hQ hx hb hr hlocks hml hown hts hK hP hD hA hS hl
  have hl : lv_has ls 4 [(0, .ref a_t), (1, .int p1), (2, .int p2), (3, .int p3)] := hl
  have hinX4 : ∀ w ∈ wsX40, w ∈ wsX4_performCut := by decide +kernel
  have fl_12 := hts (.fieldLink RX4 12 "PointingNotes$Study" "paper" "LPointingNotes$Paper;") (by decide +kernel)
  have ini_X6_isMend := hts (.initialized RX6) (by decide +kernel)
  have st_X6_isMend := hts (.static yX6_isMend) (by decide +kernel)
  rw [f_X4_performCut] at hf
  refine lv_aload_n hx hb dX4_performCut_0 rfl (lv_at hl 0 rfl) ?_
  refine va_get (D := D) (ci := 3) (v := .ref a_t_paper) (C := RX4) (T := TX4) (N := 16) hx hb hts hinX4 hown hK.1 hP 0 rfl rfl 0 (by decide) fl_12 (fun _ h9 => h9) rfl dX4_performCut_1 ?_
  refine lv_iload_n hx hb dX4_performCut_4 rfl (lv_at hl 1 rfl) ?_
  obtain ⟨ru1, hu1, hf⟩ := pn_bd1_at hf
  refine pn_calli [1] (va_runV (As := [.int p1]) (rest := []) ⟨hx, hb, hml, hown, hts⟩ (c_X1_hasNote l D cI cJ cZ a_t_paper a_t_paper_sizes a_t_paper_cites H.size v_t_paper_version v_t_paper_notes p1 ru1 hu1) (cwV 1 hts gX4_performCut_X1_hasNote rfl rfl rfl hdX1_hasNote ⟨Nat.le_of_ble_eq_true rfl, Nat.le_of_ble_eq_true rfl⟩) (pn_preV [1] hP (hD.addr rfl) hK rfl rfl (q0 := 1) (ci := 0) rfl rfl) rfl rfl hl.1 rfl (lv_room (Nat.le_of_ble_eq_true rfl)) dX4_performCut_5 ⟨Nat.zero_le _, Nat.zero_le _⟩) hP (hD.addr rfl) hS hA rfl rfl rfl (fun H locs (hP : va_P D vwCl [(a_t, .inr (3, [.ref a_t_paper, .ref a_t_linked, .ref a_t_caseAt, .ref a_t_reasonAt, .ref a_t_firstSlot, .ref a_t_members, .ref a_t_namedBy, .ref a_t_foundBy, .int v_t_linkedVersion, .int v_t_studiedVersion, .int v_t_present, .int v_t_fulls, .int v_t_cases, .int v_t_cited, .int v_t_alive, .int v_t_dead])), (a_t_paper, .inr (0, [.ref a_t_paper_sizes, .ref a_t_paper_cites, .int v_t_paper_notes, .int v_t_paper_version])), (a_t_paper_cites, .inl (cJ, 32, .inr (.inl r_t_paper_cites))), (a_t_paper_sizes, .inl (cI, 8, .inl r_t_paper_sizes))] H) _ hS => ?_)
  refine lv_if_eq (tgt := 22) hx hb dX4_performCut_8 (by decide) (fun c2 => ?_) (fun c2 => ?_)
  · have hf := pn_ifp c2 hf
    refine lv_iconst (v := (0)) hx hb dX4_performCut_22 (by decide) ?_
    cases hf
    rw [hQ]
    exact pn_retz hx hb hr hlocks hP hS rfl rfl dX4_performCut_23
  · have hf := pn_ifn c2 hf
    refine lv_iload_n hx hb dX4_performCut_11 rfl (lv_at hl 2 rfl) ?_
    obtain ⟨ru3, hu3, hf⟩ := pn_bd1_at hf
    refine pn_calli [] (va_runSN (As := [.int p2]) (rest := []) ⟨hx, hb, hml, hown, hts⟩ (c_X6_isMend l D cI cJ cZ H.size p2 ru3 hu3) ⟨va_cnB 1 hts gX4_performCut_X6_isMend_n269 rfl rfl rfl hK.2.2.2.2.2.1 ini_X6_isMend hdX6_isMend ⟨Nat.le_of_ble_eq_true rfl, Nat.le_of_ble_eq_true rfl⟩, st_X6_isMend, trivial⟩ (pn_preS [] hP (hD.addr rfl) hK rfl rfl) rfl rfl hl.1 rfl (lv_room (Nat.le_of_ble_eq_true rfl)) dX4_performCut_12 ⟨Nat.zero_le _, Nat.zero_le _⟩) hP (hD.addr rfl) hS hA rfl rfl rfl (fun H locs (hP : va_P D vwCl [(a_t, .inr (3, [.ref a_t_paper, .ref a_t_linked, .ref a_t_caseAt, .ref a_t_reasonAt, .ref a_t_firstSlot, .ref a_t_members, .ref a_t_namedBy, .ref a_t_foundBy, .int v_t_linkedVersion, .int v_t_studiedVersion, .int v_t_present, .int v_t_fulls, .int v_t_cases, .int v_t_cited, .int v_t_alive, .int v_t_dead])), (a_t_paper, .inr (0, [.ref a_t_paper_sizes, .ref a_t_paper_cites, .int v_t_paper_notes, .int v_t_paper_version])), (a_t_paper_cites, .inl (cJ, 32, .inr (.inl r_t_paper_cites))), (a_t_paper_sizes, .inl (cI, 8, .inl r_t_paper_sizes))] H) _ hS => ?_)
    refine lv_if_eq (tgt := 22) hx hb dX4_performCut_15 (by decide) (fun c4 => ?_) (fun c4 => ?_)
    · have hf := pn_ifp c4 hf
      refine lv_iconst (v := (0)) hx hb dX4_performCut_22 (by decide) ?_
      cases hf
      rw [hQ]
      exact pn_retz hx hb hr hlocks hP hS rfl rfl dX4_performCut_23
    · have hf := pn_ifn c4 hf
      refine lv_iload_n hx hb dX4_performCut_18 rfl (lv_at hl 3 rfl) ?_
      refine lv_if_eq (tgt := 24) hx hb dX4_performCut_19 (by decide) (fun c5 => ?_) (fun c5 => ?_)
      · have hf := pn_ifp c5 hf
        refine lv_aload_n hx hb dX4_performCut_24 rfl (lv_at hl 0 rfl) ?_
        refine va_get (D := D) (ci := 3) (v := .ref a_t_paper) (C := RX4) (T := TX4) (N := 16) hx hb hts hinX4 hown hK.1 hP 0 rfl rfl 0 (by decide) fl_12 (fun _ h9 => h9) rfl dX4_performCut_25 ?_
        refine lv_iload_n hx hb dX4_performCut_28 rfl (lv_at hl 1 rfl) ?_
        refine lv_iload_n hx hb dX4_performCut_29 rfl (lv_at hl 2 rfl) ?_
        obtain ⟨v_t_paper_notes_u6, v_t_paper_version_u6, r_t_paper_cites_u6, r_t_paper_sizes_u6, hu6, hf⟩ := pn_bd4_at hf
        refine pn_callv [1, 2, 3] (va_runV (As := [.int p1, .int p2]) (rest := []) ⟨hx, hb, hml, hown, hts⟩ (c_X1_dropNote l D cI cJ cZ a_t_paper a_t_paper_sizes a_t_paper_cites H.size N v_t_paper_notes v_t_paper_version r_t_paper_cites r_t_paper_sizes p1 p2 v_t_paper_notes_u6 v_t_paper_version_u6 r_t_paper_cites_u6 r_t_paper_sizes_u6 hu6) (cwV 2 hts gX4_performCut_X1_dropNote rfl rfl rfl hdX1_dropNote ⟨Nat.le_of_ble_eq_true rfl, Nat.le_of_ble_eq_true rfl⟩) (pn_preV [1, 2, 3] hP (hD.addr rfl) hK rfl rfl (q0 := 1) (ci := 0) rfl rfl) rfl rfl hl.1 rfl (lv_room (Nat.le_of_ble_eq_true rfl)) dX4_performCut_30 ⟨Nat.zero_le _, Nat.zero_le _⟩) hP (hD.addr rfl) hS hA rfl rfl rfl (fun H locs (hP : va_P D vwCl [(a_t, .inr (3, [.ref a_t_paper, .ref a_t_linked, .ref a_t_caseAt, .ref a_t_reasonAt, .ref a_t_firstSlot, .ref a_t_members, .ref a_t_namedBy, .ref a_t_foundBy, .int v_t_linkedVersion, .int v_t_studiedVersion, .int v_t_present, .int v_t_fulls, .int v_t_cases, .int v_t_cited, .int v_t_alive, .int v_t_dead])), (a_t_paper, .inr (0, [.ref a_t_paper_sizes, .ref a_t_paper_cites, .int v_t_paper_notes_u6, .int v_t_paper_version_u6])), (a_t_paper_cites, .inl (cJ, 32, .inr (.inl r_t_paper_cites_u6))), (a_t_paper_sizes, .inl (cI, 8, .inl r_t_paper_sizes_u6))] H) _ hS => ?_)
        refine lv_iconst (v := (1)) hx hb dX4_performCut_33 (by decide) ?_
        cases hf
        rw [hQ]
        exact pn_retz hx hb hr hlocks hP hS rfl rfl dX4_performCut_34
      · have hf := pn_ifn c5 hf
        refine lv_iconst (v := (0)) hx hb dX4_performCut_22 (by decide) ?_
        cases hf
        rw [hQ]
        exact pn_retz hx hb hr hlocks hP hS rfl rfl dX4_performCut_23
def f_X4_performMove (N : Nat) (v_t_paper_notes : Int32) (v_t_paper_version : Int32) (r_t_paper_cites : Nat → Int64) (r_t_paper_sizes : Nat → Int32) (p1 : Int32) (p2 : Int32) (p3 : Int32) : Option (Int32 × Int32 × (Nat → Int64) × (Nat → Int32)) :=
  pn_bd1 (f_X1_hasNote v_t_paper_notes p1) fun ru1 =>
  if ru1 = 0 then
  some ((0 : Int32), v_t_paper_version, r_t_paper_cites, r_t_paper_sizes)
  else
  pn_bd1 (f_X1_hasNote v_t_paper_notes p2) fun ru3 =>
  if ru3 = 0 then
  some ((0 : Int32), v_t_paper_version, r_t_paper_cites, r_t_paper_sizes)
  else
  pn_bd1 (f_X6_isMend p3) fun ru5 =>
  if ¬ ru5 = 0 then
  pn_bd3 (f_X1_shiftNote N v_t_paper_notes v_t_paper_version r_t_paper_cites r_t_paper_sizes p1 p2 p3) fun v_t_paper_version_u7 r_t_paper_cites_u7 r_t_paper_sizes_u7 =>
  some ((1 : Int32), v_t_paper_version_u7, r_t_paper_cites_u7, r_t_paper_sizes_u7)
  else
  some ((0 : Int32), v_t_paper_version, r_t_paper_cites, r_t_paper_sizes)
set_option maxHeartbeats 4000000 in
set_option maxRecDepth 100000 in
theorem c_X4_performMove (l : Launch) (D : va_G) (cI cJ cZ : ClassId) (a_t a_t_paper a_t_linked a_t_caseAt a_t_reasonAt a_t_firstSlot a_t_members a_t_namedBy a_t_foundBy a_t_paper_sizes a_t_paper_cites : Nat) (sz : Nat) (v_t_linkedVersion : Int32) (v_t_studiedVersion : Int32) (v_t_present : Int32) (v_t_fulls : Int32) (v_t_cases : Int32) (v_t_cited : Int32) (v_t_alive : Int32) (v_t_dead : Int32) (N : Nat) (v_t_paper_notes : Int32) (v_t_paper_version : Int32) (r_t_paper_cites : Nat → Int64) (r_t_paper_sizes : Nat → Int32) (p1 : Int32) (p2 : Int32) (p3 : Int32) (rR : Int32) (o_t_paper_version : Int32) (o_t_paper_cites : Nat → Int64) (o_t_paper_sizes : Nat → Int32) (hf : f_X4_performMove N v_t_paper_notes v_t_paper_version r_t_paper_cites r_t_paper_sizes p1 p2 p3 = some (rR, o_t_paper_version, o_t_paper_cites, o_t_paper_sizes)) : Met l yX4_performMove wsX4_performMove { frames := 4, cells := 0, slots := 0, locals := 93 } (pn_Pc D cI cJ cZ [.ref a_t, .int p1, .int p2, .int p3] [(a_t, .inr (3, [.ref a_t_paper, .ref a_t_linked, .ref a_t_caseAt, .ref a_t_reasonAt, .ref a_t_firstSlot, .ref a_t_members, .ref a_t_namedBy, .ref a_t_foundBy, .int v_t_linkedVersion, .int v_t_studiedVersion, .int v_t_present, .int v_t_fulls, .int v_t_cases, .int v_t_cited, .int v_t_alive, .int v_t_dead])), (a_t_paper, .inr (0, [.ref a_t_paper_sizes, .ref a_t_paper_cites, .int v_t_paper_notes, .int v_t_paper_version])), (a_t_paper_cites, .inl (cJ, 32, .inr (.inl r_t_paper_cites))), (a_t_paper_sizes, .inl (cI, 8, .inl r_t_paper_sizes))] sz) (pn_Qi D rR [(a_t, .inr (3, [.ref a_t_paper, .ref a_t_linked, .ref a_t_caseAt, .ref a_t_reasonAt, .ref a_t_firstSlot, .ref a_t_members, .ref a_t_namedBy, .ref a_t_foundBy, .int v_t_linkedVersion, .int v_t_studiedVersion, .int v_t_present, .int v_t_fulls, .int v_t_cases, .int v_t_cited, .int v_t_alive, .int v_t_dead])), (a_t_paper, .inr (0, [.ref a_t_paper_sizes, .ref a_t_paper_cites, .int v_t_paper_notes, .int o_t_paper_version])), (a_t_paper_cites, .inl (cJ, 32, .inr (.inl o_t_paper_cites))), (a_t_paper_sizes, .inl (cI, 8, .inl o_t_paper_sizes))] (va_A [(a_t, .inr (3, [.ref a_t_paper, .ref a_t_linked, .ref a_t_caseAt, .ref a_t_reasonAt, .ref a_t_firstSlot, .ref a_t_members, .ref a_t_namedBy, .ref a_t_foundBy, .int v_t_linkedVersion, .int v_t_studiedVersion, .int v_t_present, .int v_t_fulls, .int v_t_cases, .int v_t_cited, .int v_t_alive, .int v_t_dead])), (a_t_paper, .inr (0, [.ref a_t_paper_sizes, .ref a_t_paper_cites, .int v_t_paper_notes, .int v_t_paper_version])), (a_t_paper_cites, .inl (cJ, 32, .inr (.inl r_t_paper_cites))), (a_t_paper_sizes, .inl (cI, 8, .inl r_t_paper_sizes))] sz)) 0 0 (va_A [(a_t, .inr (3, [.ref a_t_paper, .ref a_t_linked, .ref a_t_caseAt, .ref a_t_reasonAt, .ref a_t_firstSlot, .ref a_t_members, .ref a_t_namedBy, .ref a_t_foundBy, .int v_t_linkedVersion, .int v_t_studiedVersion, .int v_t_present, .int v_t_fulls, .int v_t_cases, .int v_t_cited, .int v_t_alive, .int v_t_dead])), (a_t_paper, .inr (0, [.ref a_t_paper_sizes, .ref a_t_paper_cites, .int v_t_paper_notes, .int v_t_paper_version])), (a_t_paper_cites, .inl (cJ, 32, .inr (.inl r_t_paper_cites))), (a_t_paper_sizes, .inl (cI, 8, .inl r_t_paper_sizes))] sz) := by
  refine pn_entry (cc := cX4_performMove) (maxL := 4) (ret := (some .boolean)) (Qf := pn_Qi D rR [(a_t, .inr (3, [.ref a_t_paper, .ref a_t_linked, .ref a_t_caseAt, .ref a_t_reasonAt, .ref a_t_firstSlot, .ref a_t_members, .ref a_t_namedBy, .ref a_t_foundBy, .int v_t_linkedVersion, .int v_t_studiedVersion, .int v_t_present, .int v_t_fulls, .int v_t_cases, .int v_t_cited, .int v_t_alive, .int v_t_dead])), (a_t_paper, .inr (0, [.ref a_t_paper_sizes, .ref a_t_paper_cites, .int v_t_paper_notes, .int o_t_paper_version])), (a_t_paper_cites, .inl (cJ, 32, .inr (.inl o_t_paper_cites))), (a_t_paper_sizes, .inl (cI, 8, .inl o_t_paper_sizes))]) (by decide) rfl (Nat.le_of_ble_eq_true rfl) ?_
  intro p e s m args below meth c A ls H locs Qm hQ hx hb hr hlocks hml hown hts hK hP hD hA hS hl
  have hl : lv_has ls 4 [(0, .ref a_t), (1, .int p1), (2, .int p2), (3, .int p3)] := hl
  have hinX4 : ∀ w ∈ wsX40, w ∈ wsX4_performMove := by decide +kernel
  have fl_12 := hts (.fieldLink RX4 12 "PointingNotes$Study" "paper" "LPointingNotes$Paper;") (by decide +kernel)
  have ini_X6_isMend := hts (.initialized RX6) (by decide +kernel)
  have st_X6_isMend := hts (.static yX6_isMend) (by decide +kernel)
  rw [f_X4_performMove] at hf
  refine lv_aload_n hx hb dX4_performMove_0 rfl (lv_at hl 0 rfl) ?_
  refine va_get (D := D) (ci := 3) (v := .ref a_t_paper) (C := RX4) (T := TX4) (N := 16) hx hb hts hinX4 hown hK.1 hP 0 rfl rfl 0 (by decide) fl_12 (fun _ h9 => h9) rfl dX4_performMove_1 ?_
  refine lv_iload_n hx hb dX4_performMove_4 rfl (lv_at hl 1 rfl) ?_
  obtain ⟨ru1, hu1, hf⟩ := pn_bd1_at hf
  refine pn_calli [1] (va_runV (As := [.int p1]) (rest := []) ⟨hx, hb, hml, hown, hts⟩ (c_X1_hasNote l D cI cJ cZ a_t_paper a_t_paper_sizes a_t_paper_cites H.size v_t_paper_version v_t_paper_notes p1 ru1 hu1) (cwV 1 hts gX4_performMove_X1_hasNote rfl rfl rfl hdX1_hasNote ⟨Nat.le_of_ble_eq_true rfl, Nat.le_of_ble_eq_true rfl⟩) (pn_preV [1] hP (hD.addr rfl) hK rfl rfl (q0 := 1) (ci := 0) rfl rfl) rfl rfl hl.1 rfl (lv_room (Nat.le_of_ble_eq_true rfl)) dX4_performMove_5 ⟨Nat.zero_le _, Nat.zero_le _⟩) hP (hD.addr rfl) hS hA rfl rfl rfl (fun H locs (hP : va_P D vwCl [(a_t, .inr (3, [.ref a_t_paper, .ref a_t_linked, .ref a_t_caseAt, .ref a_t_reasonAt, .ref a_t_firstSlot, .ref a_t_members, .ref a_t_namedBy, .ref a_t_foundBy, .int v_t_linkedVersion, .int v_t_studiedVersion, .int v_t_present, .int v_t_fulls, .int v_t_cases, .int v_t_cited, .int v_t_alive, .int v_t_dead])), (a_t_paper, .inr (0, [.ref a_t_paper_sizes, .ref a_t_paper_cites, .int v_t_paper_notes, .int v_t_paper_version])), (a_t_paper_cites, .inl (cJ, 32, .inr (.inl r_t_paper_cites))), (a_t_paper_sizes, .inl (cI, 8, .inl r_t_paper_sizes))] H) _ hS => ?_)
  refine lv_if_eq (tgt := 29) hx hb dX4_performMove_8 (by decide) (fun c2 => ?_) (fun c2 => ?_)
  · have hf := pn_ifp c2 hf
    refine lv_iconst (v := (0)) hx hb dX4_performMove_29 (by decide) ?_
    cases hf
    rw [hQ]
    exact pn_retz hx hb hr hlocks hP hS rfl rfl dX4_performMove_30
  · have hf := pn_ifn c2 hf
    refine lv_aload_n hx hb dX4_performMove_11 rfl (lv_at hl 0 rfl) ?_
    refine va_get (D := D) (ci := 3) (v := .ref a_t_paper) (C := RX4) (T := TX4) (N := 16) hx hb hts hinX4 hown hK.1 hP 0 rfl rfl 0 (by decide) fl_12 (fun _ h9 => h9) rfl dX4_performMove_12 ?_
    refine lv_iload_n hx hb dX4_performMove_15 rfl (lv_at hl 2 rfl) ?_
    obtain ⟨ru3, hu3, hf⟩ := pn_bd1_at hf
    refine pn_calli [1] (va_runV (As := [.int p2]) (rest := []) ⟨hx, hb, hml, hown, hts⟩ (c_X1_hasNote l D cI cJ cZ a_t_paper a_t_paper_sizes a_t_paper_cites H.size v_t_paper_version v_t_paper_notes p2 ru3 hu3) (cwV 1 hts gX4_performMove_X1_hasNote rfl rfl rfl hdX1_hasNote ⟨Nat.le_of_ble_eq_true rfl, Nat.le_of_ble_eq_true rfl⟩) (pn_preV [1] hP (hD.addr rfl) hK rfl rfl (q0 := 1) (ci := 0) rfl rfl) rfl rfl hl.1 rfl (lv_room (Nat.le_of_ble_eq_true rfl)) dX4_performMove_16 ⟨Nat.zero_le _, Nat.zero_le _⟩) hP (hD.addr rfl) hS hA rfl rfl rfl (fun H locs (hP : va_P D vwCl [(a_t, .inr (3, [.ref a_t_paper, .ref a_t_linked, .ref a_t_caseAt, .ref a_t_reasonAt, .ref a_t_firstSlot, .ref a_t_members, .ref a_t_namedBy, .ref a_t_foundBy, .int v_t_linkedVersion, .int v_t_studiedVersion, .int v_t_present, .int v_t_fulls, .int v_t_cases, .int v_t_cited, .int v_t_alive, .int v_t_dead])), (a_t_paper, .inr (0, [.ref a_t_paper_sizes, .ref a_t_paper_cites, .int v_t_paper_notes, .int v_t_paper_version])), (a_t_paper_cites, .inl (cJ, 32, .inr (.inl r_t_paper_cites))), (a_t_paper_sizes, .inl (cI, 8, .inl r_t_paper_sizes))] H) _ hS => ?_)
    refine lv_if_eq (tgt := 29) hx hb dX4_performMove_19 (by decide) (fun c4 => ?_) (fun c4 => ?_)
    · have hf := pn_ifp c4 hf
      refine lv_iconst (v := (0)) hx hb dX4_performMove_29 (by decide) ?_
      cases hf
      rw [hQ]
      exact pn_retz hx hb hr hlocks hP hS rfl rfl dX4_performMove_30
    · have hf := pn_ifn c4 hf
      refine lv_iload_n hx hb dX4_performMove_22 rfl (lv_at hl 3 rfl) ?_
      obtain ⟨ru5, hu5, hf⟩ := pn_bd1_at hf
      refine pn_calli [] (va_runSN (As := [.int p3]) (rest := []) ⟨hx, hb, hml, hown, hts⟩ (c_X6_isMend l D cI cJ cZ H.size p3 ru5 hu5) ⟨va_cnB 1 hts gX4_performMove_X6_isMend_n269 rfl rfl rfl hK.2.2.2.2.2.1 ini_X6_isMend hdX6_isMend ⟨Nat.le_of_ble_eq_true rfl, Nat.le_of_ble_eq_true rfl⟩, st_X6_isMend, trivial⟩ (pn_preS [] hP (hD.addr rfl) hK rfl rfl) rfl rfl hl.1 rfl (lv_room (Nat.le_of_ble_eq_true rfl)) dX4_performMove_23 ⟨Nat.zero_le _, Nat.zero_le _⟩) hP (hD.addr rfl) hS hA rfl rfl rfl (fun H locs (hP : va_P D vwCl [(a_t, .inr (3, [.ref a_t_paper, .ref a_t_linked, .ref a_t_caseAt, .ref a_t_reasonAt, .ref a_t_firstSlot, .ref a_t_members, .ref a_t_namedBy, .ref a_t_foundBy, .int v_t_linkedVersion, .int v_t_studiedVersion, .int v_t_present, .int v_t_fulls, .int v_t_cases, .int v_t_cited, .int v_t_alive, .int v_t_dead])), (a_t_paper, .inr (0, [.ref a_t_paper_sizes, .ref a_t_paper_cites, .int v_t_paper_notes, .int v_t_paper_version])), (a_t_paper_cites, .inl (cJ, 32, .inr (.inl r_t_paper_cites))), (a_t_paper_sizes, .inl (cI, 8, .inl r_t_paper_sizes))] H) _ hS => ?_)
      refine lv_if_ne (tgt := 31) hx hb dX4_performMove_26 (by decide) (fun c6 => ?_) (fun c6 => ?_)
      · have hf := pn_ifp c6 hf
        refine lv_aload_n hx hb dX4_performMove_31 rfl (lv_at hl 0 rfl) ?_
        refine va_get (D := D) (ci := 3) (v := .ref a_t_paper) (C := RX4) (T := TX4) (N := 16) hx hb hts hinX4 hown hK.1 hP 0 rfl rfl 0 (by decide) fl_12 (fun _ h9 => h9) rfl dX4_performMove_32 ?_
        refine lv_iload_n hx hb dX4_performMove_35 rfl (lv_at hl 1 rfl) ?_
        refine lv_iload_n hx hb dX4_performMove_36 rfl (lv_at hl 2 rfl) ?_
        refine lv_iload_n hx hb dX4_performMove_37 rfl (lv_at hl 3 rfl) ?_
        obtain ⟨v_t_paper_version_u7, r_t_paper_cites_u7, r_t_paper_sizes_u7, hu7, hf⟩ := pn_bd3_at hf
        refine pn_callv [1, 2, 3] (va_runV (As := [.int p1, .int p2, .int p3]) (rest := []) ⟨hx, hb, hml, hown, hts⟩ (c_X1_shiftNote l D cI cJ cZ a_t_paper a_t_paper_sizes a_t_paper_cites H.size N v_t_paper_notes v_t_paper_version r_t_paper_cites r_t_paper_sizes p1 p2 p3 v_t_paper_version_u7 r_t_paper_cites_u7 r_t_paper_sizes_u7 hu7) (cwV 3 hts gX4_performMove_X1_shiftNote rfl rfl rfl hdX1_shiftNote ⟨Nat.le_of_ble_eq_true rfl, Nat.le_of_ble_eq_true rfl⟩) (pn_preV [1, 2, 3] hP (hD.addr rfl) hK rfl rfl (q0 := 1) (ci := 0) rfl rfl) rfl rfl hl.1 rfl (lv_room (Nat.le_of_ble_eq_true rfl)) dX4_performMove_38 ⟨Nat.zero_le _, Nat.zero_le _⟩) hP (hD.addr rfl) hS hA rfl rfl rfl (fun H locs (hP : va_P D vwCl [(a_t, .inr (3, [.ref a_t_paper, .ref a_t_linked, .ref a_t_caseAt, .ref a_t_reasonAt, .ref a_t_firstSlot, .ref a_t_members, .ref a_t_namedBy, .ref a_t_foundBy, .int v_t_linkedVersion, .int v_t_studiedVersion, .int v_t_present, .int v_t_fulls, .int v_t_cases, .int v_t_cited, .int v_t_alive, .int v_t_dead])), (a_t_paper, .inr (0, [.ref a_t_paper_sizes, .ref a_t_paper_cites, .int v_t_paper_notes, .int v_t_paper_version_u7])), (a_t_paper_cites, .inl (cJ, 32, .inr (.inl r_t_paper_cites_u7))), (a_t_paper_sizes, .inl (cI, 8, .inl r_t_paper_sizes_u7))] H) _ hS => ?_)
        refine lv_iconst (v := (1)) hx hb dX4_performMove_41 (by decide) ?_
        cases hf
        rw [hQ]
        exact pn_retz hx hb hr hlocks hP hS rfl rfl dX4_performMove_42
      · have hf := pn_ifq c6 hf
        refine lv_iconst (v := (0)) hx hb dX4_performMove_29 (by decide) ?_
        cases hf
        rw [hQ]
        exact pn_retz hx hb hr hlocks hP hS rfl rfl dX4_performMove_30
def f_X4_perform (N : Nat) (v_t_linkedVersion : Int32) (v_t_studiedVersion : Int32) (v_t_present : Int32) (v_t_fulls : Int32) (v_t_cases : Int32) (v_t_cited : Int32) (v_t_alive : Int32) (v_t_dead : Int32) (r_t_caseAt : Nat → Int32) (r_t_firstSlot : Nat → Int32) (r_t_foundBy : Nat → Int32) (r_t_linked : Nat → Int32) (r_t_members : Nat → Int32) (r_t_namedBy : Nat → Int32) (v_t_paper_notes : Int32) (v_t_paper_version : Int32) (r_t_paper_cites : Nat → Int64) (r_t_paper_sizes : Nat → Int32) (r_t_reasonAt : Nat → Int32) (p1 : Int32) : Option (Int32 × Int32 × Int32 × Int32 × Int32 × Int32 × Int32 × Int32 × Int32 × (Nat → Int32) × (Nat → Int32) × (Nat → Int32) × (Nat → Int32) × (Nat → Int32) × (Nat → Int32) × Int32 × Int32 × (Nat → Int64) × (Nat → Int32) × (Nat → Int32)) :=
  pn_bd15 (f_X4_study N v_t_linkedVersion v_t_studiedVersion v_t_present v_t_fulls v_t_cases v_t_cited v_t_alive v_t_dead r_t_caseAt r_t_firstSlot r_t_foundBy r_t_linked r_t_members r_t_namedBy v_t_paper_notes v_t_paper_version r_t_paper_cites r_t_paper_sizes r_t_reasonAt) fun v_t_linkedVersion_u1 v_t_studiedVersion_u1 v_t_present_u1 v_t_fulls_u1 v_t_cases_u1 v_t_cited_u1 v_t_alive_u1 v_t_dead_u1 r_t_caseAt_u1 r_t_firstSlot_u1 r_t_foundBy_u1 r_t_linked_u1 r_t_members_u1 r_t_namedBy_u1 r_t_reasonAt_u1 =>
  pn_nm ((p1 / (100 : Int32)) - (p1 / (100 : Int32)) / (10 : Int32) * (10 : Int32)) fun z2 =>
  pn_nm ((p1 / (10 : Int32)) - (p1 / (10 : Int32)) / (10 : Int32) * (10 : Int32)) fun z3 =>
  pn_nm (p1 - p1 / (10 : Int32) * (10 : Int32)) fun z4 =>
  pn_nm (p1 / (1000 : Int32)) fun z5 =>
  if z5 = 1 then
  pn_bd4 (f_X4_performMove N v_t_paper_notes v_t_paper_version r_t_paper_cites r_t_paper_sizes z2 z3 z4) fun ru7 v_t_paper_version_u7 r_t_paper_cites_u7 r_t_paper_sizes_u7 =>
  pn_bz ru7 <|
  some (ru7, v_t_linkedVersion_u1, v_t_studiedVersion_u1, v_t_present_u1, v_t_fulls_u1, v_t_cases_u1, v_t_cited_u1, v_t_alive_u1, v_t_dead_u1, r_t_caseAt_u1, r_t_firstSlot_u1, r_t_foundBy_u1, r_t_linked_u1, r_t_members_u1, r_t_namedBy_u1, v_t_paper_notes, v_t_paper_version_u7, r_t_paper_cites_u7, r_t_paper_sizes_u7, r_t_reasonAt_u1)
  else if z5 = 2 then
  pn_bd5 (f_X4_performCut N v_t_paper_notes v_t_paper_version r_t_paper_cites r_t_paper_sizes z2 z3 z4) fun ru10 v_t_paper_notes_u10 v_t_paper_version_u10 r_t_paper_cites_u10 r_t_paper_sizes_u10 =>
  pn_bz ru10 <|
  some (ru10, v_t_linkedVersion_u1, v_t_studiedVersion_u1, v_t_present_u1, v_t_fulls_u1, v_t_cases_u1, v_t_cited_u1, v_t_alive_u1, v_t_dead_u1, r_t_caseAt_u1, r_t_firstSlot_u1, r_t_foundBy_u1, r_t_linked_u1, r_t_members_u1, r_t_namedBy_u1, v_t_paper_notes_u10, v_t_paper_version_u10, r_t_paper_cites_u10, r_t_paper_sizes_u10, r_t_reasonAt_u1)
  else if z5 = 3 then
  pn_bd1 (f_X1_hasReference v_t_paper_notes r_t_paper_sizes z2 z3) fun ru13 =>
  if ru13 = 0 then
  some ((0 : Int32), v_t_linkedVersion_u1, v_t_studiedVersion_u1, v_t_present_u1, v_t_fulls_u1, v_t_cases_u1, v_t_cited_u1, v_t_alive_u1, v_t_dead_u1, r_t_caseAt_u1, r_t_firstSlot_u1, r_t_foundBy_u1, r_t_linked_u1, r_t_members_u1, r_t_namedBy_u1, v_t_paper_notes, v_t_paper_version, r_t_paper_cites, r_t_paper_sizes, r_t_reasonAt_u1)
  else
  pn_bd1 (f_X1_slotOf z2 z3) fun ru15 =>
  pn_bd1 (f_X4_caseOf r_t_caseAt_u1 ru15) fun ru16 =>
  if ¬ z4 = (9 : Int32) then
  if ¬ ru16 = z4 then
  some ((0 : Int32), v_t_linkedVersion_u1, v_t_studiedVersion_u1, v_t_present_u1, v_t_fulls_u1, v_t_cases_u1, v_t_cited_u1, v_t_alive_u1, v_t_dead_u1, r_t_caseAt_u1, r_t_firstSlot_u1, r_t_foundBy_u1, r_t_linked_u1, r_t_members_u1, r_t_namedBy_u1, v_t_paper_notes, v_t_paper_version, r_t_paper_cites, r_t_paper_sizes, r_t_reasonAt_u1)
  else
  some ((1 : Int32), v_t_linkedVersion_u1, v_t_studiedVersion_u1, v_t_present_u1, v_t_fulls_u1, v_t_cases_u1, v_t_cited_u1, v_t_alive_u1, v_t_dead_u1, r_t_caseAt_u1, r_t_firstSlot_u1, r_t_foundBy_u1, r_t_linked_u1, r_t_members_u1, r_t_namedBy_u1, v_t_paper_notes, v_t_paper_version, r_t_paper_cites, r_t_paper_sizes, r_t_reasonAt_u1)
  else
  if ¬ ru16 = (-1 : Int32) then
  some ((0 : Int32), v_t_linkedVersion_u1, v_t_studiedVersion_u1, v_t_present_u1, v_t_fulls_u1, v_t_cases_u1, v_t_cited_u1, v_t_alive_u1, v_t_dead_u1, r_t_caseAt_u1, r_t_firstSlot_u1, r_t_foundBy_u1, r_t_linked_u1, r_t_members_u1, r_t_namedBy_u1, v_t_paper_notes, v_t_paper_version, r_t_paper_cites, r_t_paper_sizes, r_t_reasonAt_u1)
  else
  some ((1 : Int32), v_t_linkedVersion_u1, v_t_studiedVersion_u1, v_t_present_u1, v_t_fulls_u1, v_t_cases_u1, v_t_cited_u1, v_t_alive_u1, v_t_dead_u1, r_t_caseAt_u1, r_t_firstSlot_u1, r_t_foundBy_u1, r_t_linked_u1, r_t_members_u1, r_t_namedBy_u1, v_t_paper_notes, v_t_paper_version, r_t_paper_cites, r_t_paper_sizes, r_t_reasonAt_u1)
  else if z5 = 4 then
  pn_bd1 (f_X1_hasReference v_t_paper_notes r_t_paper_sizes z2 z3) fun ru21 =>
  if ru21 = 0 then
  some ((0 : Int32), v_t_linkedVersion_u1, v_t_studiedVersion_u1, v_t_present_u1, v_t_fulls_u1, v_t_cases_u1, v_t_cited_u1, v_t_alive_u1, v_t_dead_u1, r_t_caseAt_u1, r_t_firstSlot_u1, r_t_foundBy_u1, r_t_linked_u1, r_t_members_u1, r_t_namedBy_u1, v_t_paper_notes, v_t_paper_version, r_t_paper_cites, r_t_paper_sizes, r_t_reasonAt_u1)
  else
  pn_bd1 (f_X1_slotOf z2 z3) fun ru23 =>
  pn_bd1 (f_X4_reasonOf r_t_reasonAt_u1 ru23) fun ru24 =>
  if ¬ ru24 = z4 then
  some ((0 : Int32), v_t_linkedVersion_u1, v_t_studiedVersion_u1, v_t_present_u1, v_t_fulls_u1, v_t_cases_u1, v_t_cited_u1, v_t_alive_u1, v_t_dead_u1, r_t_caseAt_u1, r_t_firstSlot_u1, r_t_foundBy_u1, r_t_linked_u1, r_t_members_u1, r_t_namedBy_u1, v_t_paper_notes, v_t_paper_version, r_t_paper_cites, r_t_paper_sizes, r_t_reasonAt_u1)
  else
  some ((1 : Int32), v_t_linkedVersion_u1, v_t_studiedVersion_u1, v_t_present_u1, v_t_fulls_u1, v_t_cases_u1, v_t_cited_u1, v_t_alive_u1, v_t_dead_u1, r_t_caseAt_u1, r_t_firstSlot_u1, r_t_foundBy_u1, r_t_linked_u1, r_t_members_u1, r_t_namedBy_u1, v_t_paper_notes, v_t_paper_version, r_t_paper_cites, r_t_paper_sizes, r_t_reasonAt_u1)
  else if z5 = 5 then
  if ¬ z2 = 0 then
  some ((0 : Int32), v_t_linkedVersion_u1, v_t_studiedVersion_u1, v_t_present_u1, v_t_fulls_u1, v_t_cases_u1, v_t_cited_u1, v_t_alive_u1, v_t_dead_u1, r_t_caseAt_u1, r_t_firstSlot_u1, r_t_foundBy_u1, r_t_linked_u1, r_t_members_u1, r_t_namedBy_u1, v_t_paper_notes, v_t_paper_version, r_t_paper_cites, r_t_paper_sizes, r_t_reasonAt_u1)
  else
  if v_t_alive_u1 < (((10 : Int32) * z3) + z4) then
  some ((0 : Int32), v_t_linkedVersion_u1, v_t_studiedVersion_u1, v_t_present_u1, v_t_fulls_u1, v_t_cases_u1, v_t_cited_u1, v_t_alive_u1, v_t_dead_u1, r_t_caseAt_u1, r_t_firstSlot_u1, r_t_foundBy_u1, r_t_linked_u1, r_t_members_u1, r_t_namedBy_u1, v_t_paper_notes, v_t_paper_version, r_t_paper_cites, r_t_paper_sizes, r_t_reasonAt_u1)
  else
  some ((1 : Int32), v_t_linkedVersion_u1, v_t_studiedVersion_u1, v_t_present_u1, v_t_fulls_u1, v_t_cases_u1, v_t_cited_u1, v_t_alive_u1, v_t_dead_u1, r_t_caseAt_u1, r_t_firstSlot_u1, r_t_foundBy_u1, r_t_linked_u1, r_t_members_u1, r_t_namedBy_u1, v_t_paper_notes, v_t_paper_version, r_t_paper_cites, r_t_paper_sizes, r_t_reasonAt_u1)
  else if z5 = 6 then
  if ¬ z4 = 0 then
  some ((0 : Int32), v_t_linkedVersion_u1, v_t_studiedVersion_u1, v_t_present_u1, v_t_fulls_u1, v_t_cases_u1, v_t_cited_u1, v_t_alive_u1, v_t_dead_u1, r_t_caseAt_u1, r_t_firstSlot_u1, r_t_foundBy_u1, r_t_linked_u1, r_t_members_u1, r_t_namedBy_u1, v_t_paper_notes, v_t_paper_version, r_t_paper_cites, r_t_paper_sizes, r_t_reasonAt_u1)
  else
  pn_bd3 (f_X4_performShortening N v_t_fulls_u1 v_t_cases_u1 r_t_caseAt_u1 r_t_firstSlot_u1 r_t_foundBy_u1 r_t_namedBy_u1 v_t_paper_notes v_t_paper_version r_t_paper_cites r_t_paper_sizes z2 z3) fun ru31 v_t_paper_version_u31 r_t_paper_cites_u31 =>
  if ru31 = 0 then
  some ((0 : Int32), v_t_linkedVersion_u1, v_t_studiedVersion_u1, v_t_present_u1, v_t_fulls_u1, v_t_cases_u1, v_t_cited_u1, v_t_alive_u1, v_t_dead_u1, r_t_caseAt_u1, r_t_firstSlot_u1, r_t_foundBy_u1, r_t_linked_u1, r_t_members_u1, r_t_namedBy_u1, v_t_paper_notes, v_t_paper_version_u31, r_t_paper_cites_u31, r_t_paper_sizes, r_t_reasonAt_u1)
  else
  some ((1 : Int32), v_t_linkedVersion_u1, v_t_studiedVersion_u1, v_t_present_u1, v_t_fulls_u1, v_t_cases_u1, v_t_cited_u1, v_t_alive_u1, v_t_dead_u1, r_t_caseAt_u1, r_t_firstSlot_u1, r_t_foundBy_u1, r_t_linked_u1, r_t_members_u1, r_t_namedBy_u1, v_t_paper_notes, v_t_paper_version_u31, r_t_paper_cites_u31, r_t_paper_sizes, r_t_reasonAt_u1)
  else some ((0 : Int32), v_t_linkedVersion_u1, v_t_studiedVersion_u1, v_t_present_u1, v_t_fulls_u1, v_t_cases_u1, v_t_cited_u1, v_t_alive_u1, v_t_dead_u1, r_t_caseAt_u1, r_t_firstSlot_u1, r_t_foundBy_u1, r_t_linked_u1, r_t_members_u1, r_t_namedBy_u1, v_t_paper_notes, v_t_paper_version, r_t_paper_cites, r_t_paper_sizes, r_t_reasonAt_u1)
set_option maxHeartbeats 4000000 in
set_option maxRecDepth 100000 in
theorem c_X4_perform (l : Launch) (D : va_G) (cI cJ cZ : ClassId) (a_t a_t_paper a_t_linked a_t_caseAt a_t_reasonAt a_t_firstSlot a_t_members a_t_namedBy a_t_foundBy a_t_paper_sizes a_t_paper_cites : Nat) (sz : Nat) (N : Nat) (v_t_linkedVersion : Int32) (v_t_studiedVersion : Int32) (v_t_present : Int32) (v_t_fulls : Int32) (v_t_cases : Int32) (v_t_cited : Int32) (v_t_alive : Int32) (v_t_dead : Int32) (r_t_caseAt : Nat → Int32) (r_t_firstSlot : Nat → Int32) (r_t_foundBy : Nat → Int32) (r_t_linked : Nat → Int32) (r_t_members : Nat → Int32) (r_t_namedBy : Nat → Int32) (v_t_paper_notes : Int32) (v_t_paper_version : Int32) (r_t_paper_cites : Nat → Int64) (r_t_paper_sizes : Nat → Int32) (r_t_reasonAt : Nat → Int32) (p1 : Int32) (rR : Int32) (o_t_linkedVersion : Int32) (o_t_studiedVersion : Int32) (o_t_present : Int32) (o_t_fulls : Int32) (o_t_cases : Int32) (o_t_cited : Int32) (o_t_alive : Int32) (o_t_dead : Int32) (o_t_caseAt : Nat → Int32) (o_t_firstSlot : Nat → Int32) (o_t_foundBy : Nat → Int32) (o_t_linked : Nat → Int32) (o_t_members : Nat → Int32) (o_t_namedBy : Nat → Int32) (o_t_paper_notes : Int32) (o_t_paper_version : Int32) (o_t_paper_cites : Nat → Int64) (o_t_paper_sizes : Nat → Int32) (o_t_reasonAt : Nat → Int32) (hf : f_X4_perform N v_t_linkedVersion v_t_studiedVersion v_t_present v_t_fulls v_t_cases v_t_cited v_t_alive v_t_dead r_t_caseAt r_t_firstSlot r_t_foundBy r_t_linked r_t_members r_t_namedBy v_t_paper_notes v_t_paper_version r_t_paper_cites r_t_paper_sizes r_t_reasonAt p1 = some (rR, o_t_linkedVersion, o_t_studiedVersion, o_t_present, o_t_fulls, o_t_cases, o_t_cited, o_t_alive, o_t_dead, o_t_caseAt, o_t_firstSlot, o_t_foundBy, o_t_linked, o_t_members, o_t_namedBy, o_t_paper_notes, o_t_paper_version, o_t_paper_cites, o_t_paper_sizes, o_t_reasonAt)) : Met l yX4_perform wsX4_perform { frames := 5, cells := 0, slots := 0, locals := 121 } (pn_Pc D cI cJ cZ [.ref a_t, .int p1] [(a_t, .inr (3, [.ref a_t_paper, .ref a_t_linked, .ref a_t_caseAt, .ref a_t_reasonAt, .ref a_t_firstSlot, .ref a_t_members, .ref a_t_namedBy, .ref a_t_foundBy, .int v_t_linkedVersion, .int v_t_studiedVersion, .int v_t_present, .int v_t_fulls, .int v_t_cases, .int v_t_cited, .int v_t_alive, .int v_t_dead])), (a_t_caseAt, .inl (cI, 32, .inl r_t_caseAt)), (a_t_firstSlot, .inl (cI, 32, .inl r_t_firstSlot)), (a_t_foundBy, .inl (cI, 8, .inl r_t_foundBy)), (a_t_linked, .inl (cI, 32, .inl r_t_linked)), (a_t_members, .inl (cI, 32, .inl r_t_members)), (a_t_namedBy, .inl (cI, 6, .inl r_t_namedBy)), (a_t_paper, .inr (0, [.ref a_t_paper_sizes, .ref a_t_paper_cites, .int v_t_paper_notes, .int v_t_paper_version])), (a_t_paper_cites, .inl (cJ, 32, .inr (.inl r_t_paper_cites))), (a_t_paper_sizes, .inl (cI, 8, .inl r_t_paper_sizes)), (a_t_reasonAt, .inl (cI, 32, .inl r_t_reasonAt))] sz) (pn_Qi D rR [(a_t, .inr (3, [.ref a_t_paper, .ref a_t_linked, .ref a_t_caseAt, .ref a_t_reasonAt, .ref a_t_firstSlot, .ref a_t_members, .ref a_t_namedBy, .ref a_t_foundBy, .int o_t_linkedVersion, .int o_t_studiedVersion, .int o_t_present, .int o_t_fulls, .int o_t_cases, .int o_t_cited, .int o_t_alive, .int o_t_dead])), (a_t_caseAt, .inl (cI, 32, .inl o_t_caseAt)), (a_t_firstSlot, .inl (cI, 32, .inl o_t_firstSlot)), (a_t_foundBy, .inl (cI, 8, .inl o_t_foundBy)), (a_t_linked, .inl (cI, 32, .inl o_t_linked)), (a_t_members, .inl (cI, 32, .inl o_t_members)), (a_t_namedBy, .inl (cI, 6, .inl o_t_namedBy)), (a_t_paper, .inr (0, [.ref a_t_paper_sizes, .ref a_t_paper_cites, .int o_t_paper_notes, .int o_t_paper_version])), (a_t_paper_cites, .inl (cJ, 32, .inr (.inl o_t_paper_cites))), (a_t_paper_sizes, .inl (cI, 8, .inl o_t_paper_sizes)), (a_t_reasonAt, .inl (cI, 32, .inl o_t_reasonAt))] (va_A [(a_t, .inr (3, [.ref a_t_paper, .ref a_t_linked, .ref a_t_caseAt, .ref a_t_reasonAt, .ref a_t_firstSlot, .ref a_t_members, .ref a_t_namedBy, .ref a_t_foundBy, .int v_t_linkedVersion, .int v_t_studiedVersion, .int v_t_present, .int v_t_fulls, .int v_t_cases, .int v_t_cited, .int v_t_alive, .int v_t_dead])), (a_t_caseAt, .inl (cI, 32, .inl r_t_caseAt)), (a_t_firstSlot, .inl (cI, 32, .inl r_t_firstSlot)), (a_t_foundBy, .inl (cI, 8, .inl r_t_foundBy)), (a_t_linked, .inl (cI, 32, .inl r_t_linked)), (a_t_members, .inl (cI, 32, .inl r_t_members)), (a_t_namedBy, .inl (cI, 6, .inl r_t_namedBy)), (a_t_paper, .inr (0, [.ref a_t_paper_sizes, .ref a_t_paper_cites, .int v_t_paper_notes, .int v_t_paper_version])), (a_t_paper_cites, .inl (cJ, 32, .inr (.inl r_t_paper_cites))), (a_t_paper_sizes, .inl (cI, 8, .inl r_t_paper_sizes)), (a_t_reasonAt, .inl (cI, 32, .inl r_t_reasonAt))] sz)) 0 0 (va_A [(a_t, .inr (3, [.ref a_t_paper, .ref a_t_linked, .ref a_t_caseAt, .ref a_t_reasonAt, .ref a_t_firstSlot, .ref a_t_members, .ref a_t_namedBy, .ref a_t_foundBy, .int v_t_linkedVersion, .int v_t_studiedVersion, .int v_t_present, .int v_t_fulls, .int v_t_cases, .int v_t_cited, .int v_t_alive, .int v_t_dead])), (a_t_caseAt, .inl (cI, 32, .inl r_t_caseAt)), (a_t_firstSlot, .inl (cI, 32, .inl r_t_firstSlot)), (a_t_foundBy, .inl (cI, 8, .inl r_t_foundBy)), (a_t_linked, .inl (cI, 32, .inl r_t_linked)), (a_t_members, .inl (cI, 32, .inl r_t_members)), (a_t_namedBy, .inl (cI, 6, .inl r_t_namedBy)), (a_t_paper, .inr (0, [.ref a_t_paper_sizes, .ref a_t_paper_cites, .int v_t_paper_notes, .int v_t_paper_version])), (a_t_paper_cites, .inl (cJ, 32, .inr (.inl r_t_paper_cites))), (a_t_paper_sizes, .inl (cI, 8, .inl r_t_paper_sizes)), (a_t_reasonAt, .inl (cI, 32, .inl r_t_reasonAt))] sz) := by
  refine pn_entry (cc := cX4_perform) (maxL := 5) (ret := (some .boolean)) (Qf := pn_Qi D rR [(a_t, .inr (3, [.ref a_t_paper, .ref a_t_linked, .ref a_t_caseAt, .ref a_t_reasonAt, .ref a_t_firstSlot, .ref a_t_members, .ref a_t_namedBy, .ref a_t_foundBy, .int o_t_linkedVersion, .int o_t_studiedVersion, .int o_t_present, .int o_t_fulls, .int o_t_cases, .int o_t_cited, .int o_t_alive, .int o_t_dead])), (a_t_caseAt, .inl (cI, 32, .inl o_t_caseAt)), (a_t_firstSlot, .inl (cI, 32, .inl o_t_firstSlot)), (a_t_foundBy, .inl (cI, 8, .inl o_t_foundBy)), (a_t_linked, .inl (cI, 32, .inl o_t_linked)), (a_t_members, .inl (cI, 32, .inl o_t_members)), (a_t_namedBy, .inl (cI, 6, .inl o_t_namedBy)), (a_t_paper, .inr (0, [.ref a_t_paper_sizes, .ref a_t_paper_cites, .int o_t_paper_notes, .int o_t_paper_version])), (a_t_paper_cites, .inl (cJ, 32, .inr (.inl o_t_paper_cites))), (a_t_paper_sizes, .inl (cI, 8, .inl o_t_paper_sizes)), (a_t_reasonAt, .inl (cI, 32, .inl o_t_reasonAt))]) (by decide) rfl (Nat.le_of_ble_eq_true rfl) ?_
  intro p e s m args below meth c A ls H locs Qm hQ hx hb hr hlocks hml hown hts hK hP hD hA hS hl
  have hl : lv_has ls 5 [(0, .ref a_t), (1, .int p1)] := hl
  have hinX4 : ∀ w ∈ wsX40, w ∈ wsX4_perform := by decide +kernel
  have fl_12 := hts (.fieldLink RX4 12 "PointingNotes$Study" "paper" "LPointingNotes$Paper;") (by decide +kernel)
  have fl_50 := hts (.fieldLink RX4 50 "PointingNotes$Study" "alive" "I") (by decide +kernel)
  rw [f_X4_perform] at hf
  refine lv_aload_n hx hb dX4_perform_0 rfl (lv_at hl 0 rfl) ?_
  obtain ⟨v_t_linkedVersion_u1, v_t_studiedVersion_u1, v_t_present_u1, v_t_fulls_u1, v_t_cases_u1, v_t_cited_u1, v_t_alive_u1, v_t_dead_u1, r_t_caseAt_u1, r_t_firstSlot_u1, r_t_foundBy_u1, r_t_linked_u1, r_t_members_u1, r_t_namedBy_u1, r_t_reasonAt_u1, hu1, hf⟩ := pn_bd15_at hf
  refine pn_callv [0, 1, 2, 3, 4, 5, 6, 7, 8, 9, 10] (va_runV (As := []) (rest := []) ⟨hx, hb, hml, hown, hts⟩ (c_X4_study l D cI cJ cZ a_t a_t_paper a_t_linked a_t_caseAt a_t_reasonAt a_t_firstSlot a_t_members a_t_namedBy a_t_foundBy a_t_paper_sizes a_t_paper_cites H.size N v_t_linkedVersion v_t_studiedVersion v_t_present v_t_fulls v_t_cases v_t_cited v_t_alive v_t_dead r_t_caseAt r_t_firstSlot r_t_foundBy r_t_linked r_t_members r_t_namedBy v_t_paper_notes v_t_paper_version r_t_paper_cites r_t_paper_sizes r_t_reasonAt v_t_linkedVersion_u1 v_t_studiedVersion_u1 v_t_present_u1 v_t_fulls_u1 v_t_cases_u1 v_t_cited_u1 v_t_alive_u1 v_t_dead_u1 r_t_caseAt_u1 r_t_firstSlot_u1 r_t_foundBy_u1 r_t_linked_u1 r_t_members_u1 r_t_namedBy_u1 r_t_reasonAt_u1 hu1) (cwV 0 hts gX4_perform_X4_study rfl rfl rfl hdX4_study ⟨Nat.le_of_ble_eq_true rfl, Nat.le_of_ble_eq_true rfl⟩) (pn_preV [0, 1, 2, 3, 4, 5, 6, 7, 8, 9, 10] hP (hD.addr rfl) hK rfl rfl (q0 := 0) (ci := 3) rfl rfl) rfl rfl hl.1 rfl (lv_room (Nat.le_of_ble_eq_true rfl)) dX4_perform_1 ⟨Nat.zero_le _, Nat.zero_le _⟩) hP (hD.addr rfl) hS hA rfl rfl rfl (fun H locs (hP : va_P D vwCl [(a_t, .inr (3, [.ref a_t_paper, .ref a_t_linked, .ref a_t_caseAt, .ref a_t_reasonAt, .ref a_t_firstSlot, .ref a_t_members, .ref a_t_namedBy, .ref a_t_foundBy, .int v_t_linkedVersion_u1, .int v_t_studiedVersion_u1, .int v_t_present_u1, .int v_t_fulls_u1, .int v_t_cases_u1, .int v_t_cited_u1, .int v_t_alive_u1, .int v_t_dead_u1])), (a_t_caseAt, .inl (cI, 32, .inl r_t_caseAt_u1)), (a_t_firstSlot, .inl (cI, 32, .inl r_t_firstSlot_u1)), (a_t_foundBy, .inl (cI, 8, .inl r_t_foundBy_u1)), (a_t_linked, .inl (cI, 32, .inl r_t_linked_u1)), (a_t_members, .inl (cI, 32, .inl r_t_members_u1)), (a_t_namedBy, .inl (cI, 6, .inl r_t_namedBy_u1)), (a_t_paper, .inr (0, [.ref a_t_paper_sizes, .ref a_t_paper_cites, .int v_t_paper_notes, .int v_t_paper_version])), (a_t_paper_cites, .inl (cJ, 32, .inr (.inl r_t_paper_cites))), (a_t_paper_sizes, .inl (cI, 8, .inl r_t_paper_sizes)), (a_t_reasonAt, .inl (cI, 32, .inl r_t_reasonAt_u1))] H) _ hS => ?_)
  refine lv_iload_n hx hb dX4_perform_4 rfl (lv_at hl 1 rfl) ?_
  refine lv_bipush (v := (100)) hx hb dX4_perform_5 (by decide) ?_
  refine lv_idiv hx hb dX4_perform_7 (by decide) ?_
  refine lv_bipush (v := (10)) hx hb dX4_perform_8 (by decide) ?_
  refine lv_irem hx hb dX4_perform_10 (by decide) ?_
  refine lv_topi (fun z2 ez2 => ?_)
  have hf := pn_nm_at ez2 hf
  refine lv_istore_n (lv' := [(2, .int z2), (0, .ref a_t), (1, .int p1)]) hx hb dX4_perform_11 rfl hl (by decide) rfl (fun ls hl => ?_)
  refine lv_iload_n hx hb dX4_perform_12 rfl (lv_at hl 2 rfl) ?_
  refine lv_bipush (v := (10)) hx hb dX4_perform_13 (by decide) ?_
  refine lv_idiv hx hb dX4_perform_15 (by decide) ?_
  refine lv_bipush (v := (10)) hx hb dX4_perform_16 (by decide) ?_
  refine lv_irem hx hb dX4_perform_18 (by decide) ?_
  refine lv_topi (fun z3 ez3 => ?_)
  have hf := pn_nm_at ez3 hf
  refine lv_istore_n (lv' := [(3, .int z3), (2, .int z2), (0, .ref a_t), (1, .int p1)]) hx hb dX4_perform_19 rfl hl (by decide) rfl (fun ls hl => ?_)
  refine lv_iload_n hx hb dX4_perform_20 rfl (lv_at hl 3 rfl) ?_
  refine lv_bipush (v := (10)) hx hb dX4_perform_21 (by decide) ?_
  refine lv_irem hx hb dX4_perform_23 (by decide) ?_
  refine lv_topi (fun z4 ez4 => ?_)
  have hf := pn_nm_at ez4 hf
  refine lv_istore (lv' := [(4, .int z4), (3, .int z3), (2, .int z2), (0, .ref a_t), (1, .int p1)]) hx hb dX4_perform_24 hl (by decide) rfl (fun ls hl => ?_)
  refine lv_iload_n hx hb dX4_perform_26 rfl (lv_at hl 4 rfl) ?_
  refine lv_sipush (v := (1000)) hx hb dX4_perform_27 (by decide) ?_
  refine lv_idiv hx hb dX4_perform_30 (by decide) ?_
  refine lv_topi (fun z5 ez5 => ?_)
  have hf := pn_nm_at ez5 hf
  by_cases c6 : z5 = 1
  · have hf := pn_ifp c6 hf
    refine lv_tableIn (tgt := 68) hx hb dX4_perform_31 (by rw [c6]; decide) (by rw [c6]; decide) (by rw [c6]; rfl) (by decide) ?_
    refine lv_aload_n hx hb dX4_perform_68 rfl (lv_at hl 3 rfl) ?_
    refine lv_iload_n hx hb dX4_perform_69 rfl (lv_at hl 2 rfl) ?_
    refine lv_iload_n hx hb dX4_perform_70 rfl (lv_at hl 1 rfl) ?_
    refine lv_iload hx hb dX4_perform_71 (lv_at hl 0 rfl) ?_
    obtain ⟨ru7, v_t_paper_version_u7, r_t_paper_cites_u7, r_t_paper_sizes_u7, hu7, hf⟩ := pn_bd4_at hf
    refine pn_calli [0, 7, 8, 9] (va_runV (As := [.int z2, .int z3, .int z4]) (rest := []) ⟨hx, hb, hml, hown, hts⟩ (c_X4_performMove l D cI cJ cZ a_t a_t_paper a_t_linked a_t_caseAt a_t_reasonAt a_t_firstSlot a_t_members a_t_namedBy a_t_foundBy a_t_paper_sizes a_t_paper_cites H.size v_t_linkedVersion_u1 v_t_studiedVersion_u1 v_t_present_u1 v_t_fulls_u1 v_t_cases_u1 v_t_cited_u1 v_t_alive_u1 v_t_dead_u1 N v_t_paper_notes v_t_paper_version r_t_paper_cites r_t_paper_sizes z2 z3 z4 ru7 v_t_paper_version_u7 r_t_paper_cites_u7 r_t_paper_sizes_u7 hu7) (cwV 3 hts gX4_perform_X4_performMove rfl rfl rfl hdX4_performMove ⟨Nat.le_of_ble_eq_true rfl, Nat.le_of_ble_eq_true rfl⟩) (pn_preV [0, 7, 8, 9] hP (hD.addr rfl) hK rfl rfl (q0 := 0) (ci := 3) rfl rfl) rfl rfl hl.1 rfl (lv_room (Nat.le_of_ble_eq_true rfl)) dX4_perform_73 ⟨Nat.zero_le _, Nat.zero_le _⟩) hP (hD.addr rfl) hS hA rfl rfl rfl (fun H locs (hP : va_P D vwCl [(a_t, .inr (3, [.ref a_t_paper, .ref a_t_linked, .ref a_t_caseAt, .ref a_t_reasonAt, .ref a_t_firstSlot, .ref a_t_members, .ref a_t_namedBy, .ref a_t_foundBy, .int v_t_linkedVersion_u1, .int v_t_studiedVersion_u1, .int v_t_present_u1, .int v_t_fulls_u1, .int v_t_cases_u1, .int v_t_cited_u1, .int v_t_alive_u1, .int v_t_dead_u1])), (a_t_caseAt, .inl (cI, 32, .inl r_t_caseAt_u1)), (a_t_firstSlot, .inl (cI, 32, .inl r_t_firstSlot_u1)), (a_t_foundBy, .inl (cI, 8, .inl r_t_foundBy_u1)), (a_t_linked, .inl (cI, 32, .inl r_t_linked_u1)), (a_t_members, .inl (cI, 32, .inl r_t_members_u1)), (a_t_namedBy, .inl (cI, 6, .inl r_t_namedBy_u1)), (a_t_paper, .inr (0, [.ref a_t_paper_sizes, .ref a_t_paper_cites, .int v_t_paper_notes, .int v_t_paper_version_u7])), (a_t_paper_cites, .inl (cJ, 32, .inr (.inl r_t_paper_cites_u7))), (a_t_paper_sizes, .inl (cI, 8, .inl r_t_paper_sizes_u7)), (a_t_reasonAt, .inl (cI, 32, .inl r_t_reasonAt_u1))] H) _ hS => ?_)
    obtain ⟨hn8, hf⟩ := pn_bz_at hf
    cases hf
    rw [hQ]
    exact pn_retz hx hb hr hlocks hP hS rfl hn8 dX4_perform_76
  · have hf := pn_ifn c6 hf
    by_cases c9 : z5 = 2
    · have hf := pn_ifp c9 hf
      refine lv_tableIn (tgt := 77) hx hb dX4_perform_31 (by rw [c9]; decide) (by rw [c9]; decide) (by rw [c9]; rfl) (by decide) ?_
      refine lv_aload_n hx hb dX4_perform_77 rfl (lv_at hl 3 rfl) ?_
      refine lv_iload_n hx hb dX4_perform_78 rfl (lv_at hl 2 rfl) ?_
      refine lv_iload_n hx hb dX4_perform_79 rfl (lv_at hl 1 rfl) ?_
      refine lv_iload hx hb dX4_perform_80 (lv_at hl 0 rfl) ?_
      obtain ⟨ru10, v_t_paper_notes_u10, v_t_paper_version_u10, r_t_paper_cites_u10, r_t_paper_sizes_u10, hu10, hf⟩ := pn_bd5_at hf
      refine pn_calli [0, 7, 8, 9] (va_runV (As := [.int z2, .int z3, .int z4]) (rest := []) ⟨hx, hb, hml, hown, hts⟩ (c_X4_performCut l D cI cJ cZ a_t a_t_paper a_t_linked a_t_caseAt a_t_reasonAt a_t_firstSlot a_t_members a_t_namedBy a_t_foundBy a_t_paper_sizes a_t_paper_cites H.size v_t_linkedVersion_u1 v_t_studiedVersion_u1 v_t_present_u1 v_t_fulls_u1 v_t_cases_u1 v_t_cited_u1 v_t_alive_u1 v_t_dead_u1 N v_t_paper_notes v_t_paper_version r_t_paper_cites r_t_paper_sizes z2 z3 z4 ru10 v_t_paper_notes_u10 v_t_paper_version_u10 r_t_paper_cites_u10 r_t_paper_sizes_u10 hu10) (cwV 3 hts gX4_perform_X4_performCut rfl rfl rfl hdX4_performCut ⟨Nat.le_of_ble_eq_true rfl, Nat.le_of_ble_eq_true rfl⟩) (pn_preV [0, 7, 8, 9] hP (hD.addr rfl) hK rfl rfl (q0 := 0) (ci := 3) rfl rfl) rfl rfl hl.1 rfl (lv_room (Nat.le_of_ble_eq_true rfl)) dX4_perform_82 ⟨Nat.zero_le _, Nat.zero_le _⟩) hP (hD.addr rfl) hS hA rfl rfl rfl (fun H locs (hP : va_P D vwCl [(a_t, .inr (3, [.ref a_t_paper, .ref a_t_linked, .ref a_t_caseAt, .ref a_t_reasonAt, .ref a_t_firstSlot, .ref a_t_members, .ref a_t_namedBy, .ref a_t_foundBy, .int v_t_linkedVersion_u1, .int v_t_studiedVersion_u1, .int v_t_present_u1, .int v_t_fulls_u1, .int v_t_cases_u1, .int v_t_cited_u1, .int v_t_alive_u1, .int v_t_dead_u1])), (a_t_caseAt, .inl (cI, 32, .inl r_t_caseAt_u1)), (a_t_firstSlot, .inl (cI, 32, .inl r_t_firstSlot_u1)), (a_t_foundBy, .inl (cI, 8, .inl r_t_foundBy_u1)), (a_t_linked, .inl (cI, 32, .inl r_t_linked_u1)), (a_t_members, .inl (cI, 32, .inl r_t_members_u1)), (a_t_namedBy, .inl (cI, 6, .inl r_t_namedBy_u1)), (a_t_paper, .inr (0, [.ref a_t_paper_sizes, .ref a_t_paper_cites, .int v_t_paper_notes_u10, .int v_t_paper_version_u10])), (a_t_paper_cites, .inl (cJ, 32, .inr (.inl r_t_paper_cites_u10))), (a_t_paper_sizes, .inl (cI, 8, .inl r_t_paper_sizes_u10)), (a_t_reasonAt, .inl (cI, 32, .inl r_t_reasonAt_u1))] H) _ hS => ?_)
      obtain ⟨hn11, hf⟩ := pn_bz_at hf
      cases hf
      rw [hQ]
      exact pn_retz hx hb hr hlocks hP hS rfl hn11 dX4_perform_85
    · have hf := pn_ifn c9 hf
      by_cases c12 : z5 = 3
      · have hf := pn_ifp c12 hf
        refine lv_tableIn (tgt := 86) hx hb dX4_perform_31 (by rw [c12]; decide) (by rw [c12]; decide) (by rw [c12]; rfl) (by decide) ?_
        refine lv_aload_n hx hb dX4_perform_86 rfl (lv_at hl 3 rfl) ?_
        refine va_get (D := D) (ci := 3) (v := .ref a_t_paper) (C := RX4) (T := TX4) (N := 16) hx hb hts hinX4 hown hK.1 hP 0 rfl rfl 0 (by decide) fl_12 (fun _ h9 => h9) rfl dX4_perform_87 ?_
        refine lv_iload_n hx hb dX4_perform_90 rfl (lv_at hl 2 rfl) ?_
        refine lv_iload_n hx hb dX4_perform_91 rfl (lv_at hl 1 rfl) ?_
        obtain ⟨ru13, hu13, hf⟩ := pn_bd1_at hf
        refine pn_calli [7, 9] (va_runV (As := [.int z2, .int z3]) (rest := []) ⟨hx, hb, hml, hown, hts⟩ (c_X1_hasReference l D cI cJ cZ a_t_paper a_t_paper_sizes a_t_paper_cites H.size v_t_paper_version v_t_paper_notes r_t_paper_sizes z2 z3 ru13 hu13) (cwV 2 hts gX4_perform_X1_hasReference rfl rfl rfl hdX1_hasReference ⟨Nat.le_of_ble_eq_true rfl, Nat.le_of_ble_eq_true rfl⟩) (pn_preV [7, 9] hP (hD.addr rfl) hK rfl rfl (q0 := 7) (ci := 0) rfl rfl) rfl rfl hl.1 rfl (lv_room (Nat.le_of_ble_eq_true rfl)) dX4_perform_92 ⟨Nat.zero_le _, Nat.zero_le _⟩) hP (hD.addr rfl) hS hA rfl rfl rfl (fun H locs (hP : va_P D vwCl [(a_t, .inr (3, [.ref a_t_paper, .ref a_t_linked, .ref a_t_caseAt, .ref a_t_reasonAt, .ref a_t_firstSlot, .ref a_t_members, .ref a_t_namedBy, .ref a_t_foundBy, .int v_t_linkedVersion_u1, .int v_t_studiedVersion_u1, .int v_t_present_u1, .int v_t_fulls_u1, .int v_t_cases_u1, .int v_t_cited_u1, .int v_t_alive_u1, .int v_t_dead_u1])), (a_t_caseAt, .inl (cI, 32, .inl r_t_caseAt_u1)), (a_t_firstSlot, .inl (cI, 32, .inl r_t_firstSlot_u1)), (a_t_foundBy, .inl (cI, 8, .inl r_t_foundBy_u1)), (a_t_linked, .inl (cI, 32, .inl r_t_linked_u1)), (a_t_members, .inl (cI, 32, .inl r_t_members_u1)), (a_t_namedBy, .inl (cI, 6, .inl r_t_namedBy_u1)), (a_t_paper, .inr (0, [.ref a_t_paper_sizes, .ref a_t_paper_cites, .int v_t_paper_notes, .int v_t_paper_version])), (a_t_paper_cites, .inl (cJ, 32, .inr (.inl r_t_paper_cites))), (a_t_paper_sizes, .inl (cI, 8, .inl r_t_paper_sizes)), (a_t_reasonAt, .inl (cI, 32, .inl r_t_reasonAt_u1))] H) _ hS => ?_)
        refine lv_if_eq (tgt := 127) hx hb dX4_perform_95 (by decide) (fun c14 => ?_) (fun c14 => ?_)
        · have hf := pn_ifp c14 hf
          refine lv_iconst (v := (0)) hx hb dX4_perform_127 (by decide) ?_
          cases hf
          rw [hQ]
          exact pn_retz hx hb hr hlocks hP hS rfl rfl dX4_perform_128
        · have hf := pn_ifn c14 hf
          refine lv_aload_n hx hb dX4_perform_98 rfl (lv_at hl 3 rfl) ?_
          refine lv_iload_n hx hb dX4_perform_99 rfl (lv_at hl 2 rfl) ?_
          refine lv_iload_n hx hb dX4_perform_100 rfl (lv_at hl 1 rfl) ?_
          obtain ⟨ru15, hu15, hf⟩ := pn_bd1_at hf
          refine pn_calli [] (va_runS (As := [.int z2, .int z3]) (rest := [.ref a_t]) ⟨hx, hb, hml, hown, hts⟩ (c_X1_slotOf l D cI cJ cZ H.size z2 z3 ru15 hu15) (va_cwS 2 hts gX4_perform_X1_slotOf rfl rfl rfl hdX1_slotOf ⟨Nat.le_of_ble_eq_true rfl, Nat.le_of_ble_eq_true rfl⟩) (pn_preS [] hP (hD.addr rfl) hK rfl rfl) rfl rfl hl.1 rfl (lv_room (Nat.le_of_ble_eq_true rfl)) dX4_perform_101 ⟨Nat.zero_le _, Nat.zero_le _⟩) hP (hD.addr rfl) hS hA rfl rfl rfl (fun H locs (hP : va_P D vwCl [(a_t, .inr (3, [.ref a_t_paper, .ref a_t_linked, .ref a_t_caseAt, .ref a_t_reasonAt, .ref a_t_firstSlot, .ref a_t_members, .ref a_t_namedBy, .ref a_t_foundBy, .int v_t_linkedVersion_u1, .int v_t_studiedVersion_u1, .int v_t_present_u1, .int v_t_fulls_u1, .int v_t_cases_u1, .int v_t_cited_u1, .int v_t_alive_u1, .int v_t_dead_u1])), (a_t_caseAt, .inl (cI, 32, .inl r_t_caseAt_u1)), (a_t_firstSlot, .inl (cI, 32, .inl r_t_firstSlot_u1)), (a_t_foundBy, .inl (cI, 8, .inl r_t_foundBy_u1)), (a_t_linked, .inl (cI, 32, .inl r_t_linked_u1)), (a_t_members, .inl (cI, 32, .inl r_t_members_u1)), (a_t_namedBy, .inl (cI, 6, .inl r_t_namedBy_u1)), (a_t_paper, .inr (0, [.ref a_t_paper_sizes, .ref a_t_paper_cites, .int v_t_paper_notes, .int v_t_paper_version])), (a_t_paper_cites, .inl (cJ, 32, .inr (.inl r_t_paper_cites))), (a_t_paper_sizes, .inl (cI, 8, .inl r_t_paper_sizes)), (a_t_reasonAt, .inl (cI, 32, .inl r_t_reasonAt_u1))] H) _ hS => ?_)
          obtain ⟨ru16, hu16, hf⟩ := pn_bd1_at hf
          refine pn_calli [0, 1] (va_runV (As := [.int ru15]) (rest := []) ⟨hx, hb, hml, hown, hts⟩ (c_X4_caseOf l D cI cJ cZ a_t a_t_paper a_t_linked a_t_caseAt a_t_reasonAt a_t_firstSlot a_t_members a_t_namedBy a_t_foundBy H.size v_t_linkedVersion_u1 v_t_studiedVersion_u1 v_t_present_u1 v_t_fulls_u1 v_t_cases_u1 v_t_cited_u1 v_t_alive_u1 v_t_dead_u1 r_t_caseAt_u1 ru15 ru16 hu16) (cwV 1 hts gX4_perform_X4_caseOf rfl rfl rfl hdX4_caseOf ⟨Nat.le_of_ble_eq_true rfl, Nat.le_of_ble_eq_true rfl⟩) (pn_preV [0, 1] hP (hD.addr rfl) hK rfl rfl (q0 := 0) (ci := 3) rfl rfl) rfl rfl hl.1 rfl (lv_room (Nat.le_of_ble_eq_true rfl)) dX4_perform_104 ⟨Nat.zero_le _, Nat.zero_le _⟩) hP (hD.addr rfl) hS hA rfl rfl rfl (fun H locs (hP : va_P D vwCl [(a_t, .inr (3, [.ref a_t_paper, .ref a_t_linked, .ref a_t_caseAt, .ref a_t_reasonAt, .ref a_t_firstSlot, .ref a_t_members, .ref a_t_namedBy, .ref a_t_foundBy, .int v_t_linkedVersion_u1, .int v_t_studiedVersion_u1, .int v_t_present_u1, .int v_t_fulls_u1, .int v_t_cases_u1, .int v_t_cited_u1, .int v_t_alive_u1, .int v_t_dead_u1])), (a_t_caseAt, .inl (cI, 32, .inl r_t_caseAt_u1)), (a_t_firstSlot, .inl (cI, 32, .inl r_t_firstSlot_u1)), (a_t_foundBy, .inl (cI, 8, .inl r_t_foundBy_u1)), (a_t_linked, .inl (cI, 32, .inl r_t_linked_u1)), (a_t_members, .inl (cI, 32, .inl r_t_members_u1)), (a_t_namedBy, .inl (cI, 6, .inl r_t_namedBy_u1)), (a_t_paper, .inr (0, [.ref a_t_paper_sizes, .ref a_t_paper_cites, .int v_t_paper_notes, .int v_t_paper_version])), (a_t_paper_cites, .inl (cJ, 32, .inr (.inl r_t_paper_cites))), (a_t_paper_sizes, .inl (cI, 8, .inl r_t_paper_sizes)), (a_t_reasonAt, .inl (cI, 32, .inl r_t_reasonAt_u1))] H) _ hS => ?_)
          refine lv_iload hx hb dX4_perform_107 (lv_at hl 0 rfl) ?_
          refine lv_bipush (v := (9)) hx hb dX4_perform_109 (by decide) ?_
          refine lv_icmp_ne (tgt := 118) hx hb dX4_perform_111 (by decide) (fun c17 => ?_) (fun c17 => ?_)
          · have hf := pn_ifp c17 hf
            refine lv_iload hx hb dX4_perform_118 (lv_at hl 0 rfl) ?_
            refine lv_icmp_ne (tgt := 127) hx hb dX4_perform_120 (by decide) (fun c18 => ?_) (fun c18 => ?_)
            · have hf := pn_ifp c18 hf
              refine lv_iconst (v := (0)) hx hb dX4_perform_127 (by decide) ?_
              cases hf
              rw [hQ]
              exact pn_retz hx hb hr hlocks hP hS rfl rfl dX4_perform_128
            · have hf := pn_ifq c18 hf
              refine lv_iconst (v := (1)) hx hb dX4_perform_123 (by decide) ?_
              refine lv_goto (tgt := 128) hx hb dX4_perform_124 (by decide) ?_
              cases hf
              rw [hQ]
              exact pn_retz hx hb hr hlocks hP hS rfl rfl dX4_perform_128
          · have hf := pn_ifq c17 hf
            refine lv_iconst (v := (-1)) hx hb dX4_perform_114 (by decide) ?_
            refine lv_goto (tgt := 120) hx hb dX4_perform_115 (by decide) ?_
            refine lv_icmp_ne (tgt := 127) hx hb dX4_perform_120 (by decide) (fun c19 => ?_) (fun c19 => ?_)
            · have hf := pn_ifp c19 hf
              refine lv_iconst (v := (0)) hx hb dX4_perform_127 (by decide) ?_
              cases hf
              rw [hQ]
              exact pn_retz hx hb hr hlocks hP hS rfl rfl dX4_perform_128
            · have hf := pn_ifq c19 hf
              refine lv_iconst (v := (1)) hx hb dX4_perform_123 (by decide) ?_
              refine lv_goto (tgt := 128) hx hb dX4_perform_124 (by decide) ?_
              cases hf
              rw [hQ]
              exact pn_retz hx hb hr hlocks hP hS rfl rfl dX4_perform_128
      · have hf := pn_ifn c12 hf
        by_cases c20 : z5 = 4
        · have hf := pn_ifp c20 hf
          refine lv_tableIn (tgt := 129) hx hb dX4_perform_31 (by rw [c20]; decide) (by rw [c20]; decide) (by rw [c20]; rfl) (by decide) ?_
          refine lv_aload_n hx hb dX4_perform_129 rfl (lv_at hl 3 rfl) ?_
          refine va_get (D := D) (ci := 3) (v := .ref a_t_paper) (C := RX4) (T := TX4) (N := 16) hx hb hts hinX4 hown hK.1 hP 0 rfl rfl 0 (by decide) fl_12 (fun _ h9 => h9) rfl dX4_perform_130 ?_
          refine lv_iload_n hx hb dX4_perform_133 rfl (lv_at hl 2 rfl) ?_
          refine lv_iload_n hx hb dX4_perform_134 rfl (lv_at hl 1 rfl) ?_
          obtain ⟨ru21, hu21, hf⟩ := pn_bd1_at hf
          refine pn_calli [7, 9] (va_runV (As := [.int z2, .int z3]) (rest := []) ⟨hx, hb, hml, hown, hts⟩ (c_X1_hasReference l D cI cJ cZ a_t_paper a_t_paper_sizes a_t_paper_cites H.size v_t_paper_version v_t_paper_notes r_t_paper_sizes z2 z3 ru21 hu21) (cwV 2 hts gX4_perform_X1_hasReference rfl rfl rfl hdX1_hasReference ⟨Nat.le_of_ble_eq_true rfl, Nat.le_of_ble_eq_true rfl⟩) (pn_preV [7, 9] hP (hD.addr rfl) hK rfl rfl (q0 := 7) (ci := 0) rfl rfl) rfl rfl hl.1 rfl (lv_room (Nat.le_of_ble_eq_true rfl)) dX4_perform_135 ⟨Nat.zero_le _, Nat.zero_le _⟩) hP (hD.addr rfl) hS hA rfl rfl rfl (fun H locs (hP : va_P D vwCl [(a_t, .inr (3, [.ref a_t_paper, .ref a_t_linked, .ref a_t_caseAt, .ref a_t_reasonAt, .ref a_t_firstSlot, .ref a_t_members, .ref a_t_namedBy, .ref a_t_foundBy, .int v_t_linkedVersion_u1, .int v_t_studiedVersion_u1, .int v_t_present_u1, .int v_t_fulls_u1, .int v_t_cases_u1, .int v_t_cited_u1, .int v_t_alive_u1, .int v_t_dead_u1])), (a_t_caseAt, .inl (cI, 32, .inl r_t_caseAt_u1)), (a_t_firstSlot, .inl (cI, 32, .inl r_t_firstSlot_u1)), (a_t_foundBy, .inl (cI, 8, .inl r_t_foundBy_u1)), (a_t_linked, .inl (cI, 32, .inl r_t_linked_u1)), (a_t_members, .inl (cI, 32, .inl r_t_members_u1)), (a_t_namedBy, .inl (cI, 6, .inl r_t_namedBy_u1)), (a_t_paper, .inr (0, [.ref a_t_paper_sizes, .ref a_t_paper_cites, .int v_t_paper_notes, .int v_t_paper_version])), (a_t_paper_cites, .inl (cJ, 32, .inr (.inl r_t_paper_cites))), (a_t_paper_sizes, .inl (cI, 8, .inl r_t_paper_sizes)), (a_t_reasonAt, .inl (cI, 32, .inl r_t_reasonAt_u1))] H) _ hS => ?_)
          refine lv_if_eq (tgt := 159) hx hb dX4_perform_138 (by decide) (fun c22 => ?_) (fun c22 => ?_)
          · have hf := pn_ifp c22 hf
            refine lv_iconst (v := (0)) hx hb dX4_perform_159 (by decide) ?_
            cases hf
            rw [hQ]
            exact pn_retz hx hb hr hlocks hP hS rfl rfl dX4_perform_160
          · have hf := pn_ifn c22 hf
            refine lv_aload_n hx hb dX4_perform_141 rfl (lv_at hl 3 rfl) ?_
            refine lv_iload_n hx hb dX4_perform_142 rfl (lv_at hl 2 rfl) ?_
            refine lv_iload_n hx hb dX4_perform_143 rfl (lv_at hl 1 rfl) ?_
            obtain ⟨ru23, hu23, hf⟩ := pn_bd1_at hf
            refine pn_calli [] (va_runS (As := [.int z2, .int z3]) (rest := [.ref a_t]) ⟨hx, hb, hml, hown, hts⟩ (c_X1_slotOf l D cI cJ cZ H.size z2 z3 ru23 hu23) (va_cwS 2 hts gX4_perform_X1_slotOf rfl rfl rfl hdX1_slotOf ⟨Nat.le_of_ble_eq_true rfl, Nat.le_of_ble_eq_true rfl⟩) (pn_preS [] hP (hD.addr rfl) hK rfl rfl) rfl rfl hl.1 rfl (lv_room (Nat.le_of_ble_eq_true rfl)) dX4_perform_144 ⟨Nat.zero_le _, Nat.zero_le _⟩) hP (hD.addr rfl) hS hA rfl rfl rfl (fun H locs (hP : va_P D vwCl [(a_t, .inr (3, [.ref a_t_paper, .ref a_t_linked, .ref a_t_caseAt, .ref a_t_reasonAt, .ref a_t_firstSlot, .ref a_t_members, .ref a_t_namedBy, .ref a_t_foundBy, .int v_t_linkedVersion_u1, .int v_t_studiedVersion_u1, .int v_t_present_u1, .int v_t_fulls_u1, .int v_t_cases_u1, .int v_t_cited_u1, .int v_t_alive_u1, .int v_t_dead_u1])), (a_t_caseAt, .inl (cI, 32, .inl r_t_caseAt_u1)), (a_t_firstSlot, .inl (cI, 32, .inl r_t_firstSlot_u1)), (a_t_foundBy, .inl (cI, 8, .inl r_t_foundBy_u1)), (a_t_linked, .inl (cI, 32, .inl r_t_linked_u1)), (a_t_members, .inl (cI, 32, .inl r_t_members_u1)), (a_t_namedBy, .inl (cI, 6, .inl r_t_namedBy_u1)), (a_t_paper, .inr (0, [.ref a_t_paper_sizes, .ref a_t_paper_cites, .int v_t_paper_notes, .int v_t_paper_version])), (a_t_paper_cites, .inl (cJ, 32, .inr (.inl r_t_paper_cites))), (a_t_paper_sizes, .inl (cI, 8, .inl r_t_paper_sizes)), (a_t_reasonAt, .inl (cI, 32, .inl r_t_reasonAt_u1))] H) _ hS => ?_)
            obtain ⟨ru24, hu24, hf⟩ := pn_bd1_at hf
            refine pn_calli [0, 10] (va_runV (As := [.int ru23]) (rest := []) ⟨hx, hb, hml, hown, hts⟩ (c_X4_reasonOf l D cI cJ cZ a_t a_t_paper a_t_linked a_t_caseAt a_t_reasonAt a_t_firstSlot a_t_members a_t_namedBy a_t_foundBy H.size v_t_linkedVersion_u1 v_t_studiedVersion_u1 v_t_present_u1 v_t_fulls_u1 v_t_cases_u1 v_t_cited_u1 v_t_alive_u1 v_t_dead_u1 r_t_reasonAt_u1 ru23 ru24 hu24) (cwV 1 hts gX4_perform_X4_reasonOf rfl rfl rfl hdX4_reasonOf ⟨Nat.le_of_ble_eq_true rfl, Nat.le_of_ble_eq_true rfl⟩) (pn_preV [0, 10] hP (hD.addr rfl) hK rfl rfl (q0 := 0) (ci := 3) rfl rfl) rfl rfl hl.1 rfl (lv_room (Nat.le_of_ble_eq_true rfl)) dX4_perform_147 ⟨Nat.zero_le _, Nat.zero_le _⟩) hP (hD.addr rfl) hS hA rfl rfl rfl (fun H locs (hP : va_P D vwCl [(a_t, .inr (3, [.ref a_t_paper, .ref a_t_linked, .ref a_t_caseAt, .ref a_t_reasonAt, .ref a_t_firstSlot, .ref a_t_members, .ref a_t_namedBy, .ref a_t_foundBy, .int v_t_linkedVersion_u1, .int v_t_studiedVersion_u1, .int v_t_present_u1, .int v_t_fulls_u1, .int v_t_cases_u1, .int v_t_cited_u1, .int v_t_alive_u1, .int v_t_dead_u1])), (a_t_caseAt, .inl (cI, 32, .inl r_t_caseAt_u1)), (a_t_firstSlot, .inl (cI, 32, .inl r_t_firstSlot_u1)), (a_t_foundBy, .inl (cI, 8, .inl r_t_foundBy_u1)), (a_t_linked, .inl (cI, 32, .inl r_t_linked_u1)), (a_t_members, .inl (cI, 32, .inl r_t_members_u1)), (a_t_namedBy, .inl (cI, 6, .inl r_t_namedBy_u1)), (a_t_paper, .inr (0, [.ref a_t_paper_sizes, .ref a_t_paper_cites, .int v_t_paper_notes, .int v_t_paper_version])), (a_t_paper_cites, .inl (cJ, 32, .inr (.inl r_t_paper_cites))), (a_t_paper_sizes, .inl (cI, 8, .inl r_t_paper_sizes)), (a_t_reasonAt, .inl (cI, 32, .inl r_t_reasonAt_u1))] H) _ hS => ?_)
            refine lv_iload hx hb dX4_perform_150 (lv_at hl 0 rfl) ?_
            refine lv_icmp_ne (tgt := 159) hx hb dX4_perform_152 (by decide) (fun c25 => ?_) (fun c25 => ?_)
            · have hf := pn_ifp c25 hf
              refine lv_iconst (v := (0)) hx hb dX4_perform_159 (by decide) ?_
              cases hf
              rw [hQ]
              exact pn_retz hx hb hr hlocks hP hS rfl rfl dX4_perform_160
            · have hf := pn_ifq c25 hf
              refine lv_iconst (v := (1)) hx hb dX4_perform_155 (by decide) ?_
              refine lv_goto (tgt := 160) hx hb dX4_perform_156 (by decide) ?_
              cases hf
              rw [hQ]
              exact pn_retz hx hb hr hlocks hP hS rfl rfl dX4_perform_160
        · have hf := pn_ifn c20 hf
          by_cases c26 : z5 = 5
          · have hf := pn_ifp c26 hf
            refine lv_tableIn (tgt := 161) hx hb dX4_perform_31 (by rw [c26]; decide) (by rw [c26]; decide) (by rw [c26]; rfl) (by decide) ?_
            refine lv_iload_n hx hb dX4_perform_161 rfl (lv_at hl 2 rfl) ?_
            refine lv_if_ne (tgt := 183) hx hb dX4_perform_162 (by decide) (fun c27 => ?_) (fun c27 => ?_)
            · have hf := pn_ifp c27 hf
              refine lv_iconst (v := (0)) hx hb dX4_perform_183 (by decide) ?_
              cases hf
              rw [hQ]
              exact pn_retz hx hb hr hlocks hP hS rfl rfl dX4_perform_184
            · have hf := pn_ifq c27 hf
              refine lv_aload_n hx hb dX4_perform_165 rfl (lv_at hl 3 rfl) ?_
              refine va_get (D := D) (ci := 3) (v := .int v_t_alive_u1) (C := RX4) (T := TX4) (N := 16) hx hb hts hinX4 hown hK.1 hP 0 rfl rfl 14 (by decide) fl_50 (fun _ h9 => h9) rfl dX4_perform_166 ?_
              refine lv_bipush (v := (10)) hx hb dX4_perform_169 (by decide) ?_
              refine lv_iload_n hx hb dX4_perform_171 rfl (lv_at hl 1 rfl) ?_
              refine lv_imul hx hb dX4_perform_172 ?_
              refine lv_iload hx hb dX4_perform_173 (lv_at hl 0 rfl) ?_
              refine lv_iadd hx hb dX4_perform_175 ?_
              refine lv_icmp_lt (tgt := 183) hx hb dX4_perform_176 (by decide) (fun c28 => ?_) (fun c28 => ?_)
              · have hf := pn_ifp c28 hf
                refine lv_iconst (v := (0)) hx hb dX4_perform_183 (by decide) ?_
                cases hf
                rw [hQ]
                exact pn_retz hx hb hr hlocks hP hS rfl rfl dX4_perform_184
              · have hf := pn_ifn c28 hf
                refine lv_iconst (v := (1)) hx hb dX4_perform_179 (by decide) ?_
                refine lv_goto (tgt := 184) hx hb dX4_perform_180 (by decide) ?_
                cases hf
                rw [hQ]
                exact pn_retz hx hb hr hlocks hP hS rfl rfl dX4_perform_184
          · have hf := pn_ifn c26 hf
            by_cases c29 : z5 = 6
            · have hf := pn_ifp c29 hf
              refine lv_tableIn (tgt := 185) hx hb dX4_perform_31 (by rw [c29]; decide) (by rw [c29]; decide) (by rw [c29]; rfl) (by decide) ?_
              refine lv_iload hx hb dX4_perform_185 (lv_at hl 0 rfl) ?_
              refine lv_if_ne (tgt := 203) hx hb dX4_perform_187 (by decide) (fun c30 => ?_) (fun c30 => ?_)
              · have hf := pn_ifp c30 hf
                refine lv_iconst (v := (0)) hx hb dX4_perform_203 (by decide) ?_
                cases hf
                rw [hQ]
                exact pn_retz hx hb hr hlocks hP hS rfl rfl dX4_perform_204
              · have hf := pn_ifq c30 hf
                refine lv_aload_n hx hb dX4_perform_190 rfl (lv_at hl 3 rfl) ?_
                refine lv_iload_n hx hb dX4_perform_191 rfl (lv_at hl 2 rfl) ?_
                refine lv_iload_n hx hb dX4_perform_192 rfl (lv_at hl 1 rfl) ?_
                obtain ⟨ru31, v_t_paper_version_u31, r_t_paper_cites_u31, hu31, hf⟩ := pn_bd3_at hf
                refine pn_calli [0, 1, 2, 3, 6, 7, 8, 9] (va_runV (As := [.int z2, .int z3]) (rest := []) ⟨hx, hb, hml, hown, hts⟩ (c_X4_performShortening l D cI cJ cZ a_t a_t_paper a_t_linked a_t_caseAt a_t_reasonAt a_t_firstSlot a_t_members a_t_namedBy a_t_foundBy a_t_paper_sizes a_t_paper_cites H.size v_t_linkedVersion_u1 v_t_studiedVersion_u1 v_t_present_u1 v_t_cited_u1 v_t_alive_u1 v_t_dead_u1 N v_t_fulls_u1 v_t_cases_u1 r_t_caseAt_u1 r_t_firstSlot_u1 r_t_foundBy_u1 r_t_namedBy_u1 v_t_paper_notes v_t_paper_version r_t_paper_cites r_t_paper_sizes z2 z3 ru31 v_t_paper_version_u31 r_t_paper_cites_u31 hu31) (cwV 2 hts gX4_perform_X4_performShortening rfl rfl rfl hdX4_performShortening ⟨Nat.le_of_ble_eq_true rfl, Nat.le_of_ble_eq_true rfl⟩) (pn_preV [0, 1, 2, 3, 6, 7, 8, 9] hP (hD.addr rfl) hK rfl rfl (q0 := 0) (ci := 3) rfl rfl) rfl rfl hl.1 rfl (lv_room (Nat.le_of_ble_eq_true rfl)) dX4_perform_193 ⟨Nat.zero_le _, Nat.zero_le _⟩) hP (hD.addr rfl) hS hA rfl rfl rfl (fun H locs (hP : va_P D vwCl [(a_t, .inr (3, [.ref a_t_paper, .ref a_t_linked, .ref a_t_caseAt, .ref a_t_reasonAt, .ref a_t_firstSlot, .ref a_t_members, .ref a_t_namedBy, .ref a_t_foundBy, .int v_t_linkedVersion_u1, .int v_t_studiedVersion_u1, .int v_t_present_u1, .int v_t_fulls_u1, .int v_t_cases_u1, .int v_t_cited_u1, .int v_t_alive_u1, .int v_t_dead_u1])), (a_t_caseAt, .inl (cI, 32, .inl r_t_caseAt_u1)), (a_t_firstSlot, .inl (cI, 32, .inl r_t_firstSlot_u1)), (a_t_foundBy, .inl (cI, 8, .inl r_t_foundBy_u1)), (a_t_linked, .inl (cI, 32, .inl r_t_linked_u1)), (a_t_members, .inl (cI, 32, .inl r_t_members_u1)), (a_t_namedBy, .inl (cI, 6, .inl r_t_namedBy_u1)), (a_t_paper, .inr (0, [.ref a_t_paper_sizes, .ref a_t_paper_cites, .int v_t_paper_notes, .int v_t_paper_version_u31])), (a_t_paper_cites, .inl (cJ, 32, .inr (.inl r_t_paper_cites_u31))), (a_t_paper_sizes, .inl (cI, 8, .inl r_t_paper_sizes)), (a_t_reasonAt, .inl (cI, 32, .inl r_t_reasonAt_u1))] H) _ hS => ?_)
                refine lv_if_eq (tgt := 203) hx hb dX4_perform_196 (by decide) (fun c32 => ?_) (fun c32 => ?_)
                · have hf := pn_ifp c32 hf
                  refine lv_iconst (v := (0)) hx hb dX4_perform_203 (by decide) ?_
                  cases hf
                  rw [hQ]
                  exact pn_retz hx hb hr hlocks hP hS rfl rfl dX4_perform_204
                · have hf := pn_ifn c32 hf
                  refine lv_iconst (v := (1)) hx hb dX4_perform_199 (by decide) ?_
                  refine lv_goto (tgt := 204) hx hb dX4_perform_200 (by decide) ?_
                  cases hf
                  rw [hQ]
                  exact pn_retz hx hb hr hlocks hP hS rfl rfl dX4_perform_204
            · have hf := pn_ifn c29 hf
              refine lv_tableOut (tgt := 205) hx hb dX4_perform_31 (by have := lv_neT (a := 1) c6 (by decide); have := lv_neT (a := 2) c9 (by decide); have := lv_neT (a := 3) c12 (by decide); have := lv_neT (a := 4) c20 (by decide); have := lv_neT (a := 5) c26 (by decide); have := lv_neT (a := 6) c29 (by decide); omega) (by decide) ?_
              refine lv_iconst (v := (0)) hx hb dX4_perform_205 (by decide) ?_
              cases hf
              rw [hQ]
              exact pn_retz hx hb hr hlocks hP hS rfl rfl dX4_perform_206
