theorem L_I_up {D : va_G} {cI cJ cZ : ClassId} {h6 h7 B C : Nat} {A : Nat → Prop} {H : Heap} (h : L_I D cI cJ cZ h6 h7 A B H) (hC : B ≤ C) : L_I D cI cJ cZ h6 h7 A C H := by
  obtain ⟨a6, a7, iv, jv, ia, ja, hP, hD, hT, hn, hy, hu, hk, ho, hs⟩ := h
  exact ⟨a6, a7, iv, jv, ia, ja, hP, hD, hT, rN_up hn hC, rY_up hy hC, hu, hk, ho, hs⟩
theorem lw_more {i L : Nat} (hi : i ≤ L + 3) (hL : L ≤ 2048) (h : ¬ Int32.ofNat L - 4 < nI i) : i + 4 ≤ L := by
  rcases Nat.lt_or_ge L (i + 4) with q | q
  · exfalso
    apply h
    have e : (Int32.ofNat L - 4).toInt = (L : Int) - ((4 : Nat) : Int) := pk_sub_toInt (a := L) (b := 4) (by omega) (by omega)
    rw [Int32.lt_iff_toInt_lt, e, nI_toInt (show i < 2 ^ 31 by omega)]
    omega
  · exact q
set_option maxHeartbeats 4000000 in
set_option maxRecDepth 100000 in
/-- THE LAW'S LOOP -/
theorem law_loop {p : Program} {l : Launch} {e : Env} {s : State} {m : MethodId} {below : List Frame} {meth : Method} {c : Code} {b L : Nat} {xs : Nat → Int32} {D : va_G} {cI cJ cZ : ClassId} {h6 h7 : Nat} (hL : L ≤ 2048) (C0 : lw_At p s m meth c b L xs) (hK : pn_K D cI cJ cZ s) : ∀ (n i : Nat), i ≤ L + 3 → L + 4 ≤ i + 4 * n → ∀ (H : Heap) (locs : List Loc) (ls : Array Slot), L_I D cI cJ cZ h6 h7 (fun q : Nat => s.heap.size ≤ q) (25 * i) H → va_S (fun q : Nat => s.heap.size ≤ q) s.heap H locs → lv_has ls 4 [(0, .ref b), (1, .ref h6), (2, .ref h7), (3, .int (nI i))] → W p l e room_1 s m #[Value.ref b] below meth c H locs 65 8727 (lw_Z below #[Value.ref b] s) (F0 m 18 ls []) := by
  obtain ⟨hx, hb, hr, hml, hown, hts, hX, hbl, hlocks, hgv⟩ := id C0
  have hbA : ¬ (fun q : Nat => s.heap.size ≤ q) b := Nat.not_le.mpr hbl
  intro n
  induction n with
  | zero =>
    intro i h1 h2
    exact absurd h2 (by omega)
  | succ n ih =>
    intro i hi0 hin H locs ls hI hS hl
    refine lv_iload_n hx hb dL_law_18 rfl (lv_at hl 3 rfl) ?_
    refine lv_aload_n hx hb dL_law_19 rfl (lv_at hl 0 rfl) ?_
    refine va_slen hx hb hX hbl hbA hS dL_law_20 ?_
    refine lv_iconst (v := 4) hx hb dL_law_21 (by decide) ?_
    refine lv_isub hx hb dL_law_22 ?_
    refine lv_icmp_gt (tgt := 989) hx hb dL_law_23 (by decide) (fun c1 => ?_) (fun c1 => ?_)
    · refine lv_iconst (v := 1) hx hb dL_law_989 (by decide) ?_
      refine va_forget (fun q hq => hS.2.2 q hq) ?_
      refine W.widen (k := 600000) (n := 7302250) (by omega) (by omega) ?_
      exact lw_ret hx hb hr hlocks dL_law_990
    · have hi : i + 4 ≤ L := lw_more hi0 hL c1
      have hB : 25 * i < 2 ^ 26 := by omega
      have kk : ∀ (H : Heap) (locs : List Loc), L_I D cI cJ cZ h6 h7 (fun q : Nat => s.heap.size ≤ q) (25 * i + 100) H → va_S (fun q : Nat => s.heap.size ≤ q) s.heap H locs → W p l e room_1 s m #[Value.ref b] below meth c H locs 65 8727 (lw_Z below #[Value.ref b] s) (F0 m 983 ls []) := by
        intro H locs hI hS
        refine lv_iinc (v := nI (i + 4)) (lv' := [(3, .int (nI (i + 4))), (0, .ref b), (1, .ref h6), (2, .ref h7)]) hx hb dL_law_983 hl (k := 3) rfl (nI_add i 4) (by decide) rfl (fun ls hl => ?_)
        refine lv_goto (tgt := 18) hx hb dL_law_986 (by decide) ?_
        exact ih (i + 4) (by omega) (by omega) H locs ls (L_I_up hI (by omega)) hS (lv_sub hl [1, 2, 3, 0] rfl)
      refine lv_aload_n hx hb dL_law_26 rfl (lv_at hl 0 rfl) ?_
      refine lv_iload_n hx hb dL_law_27 rfl (lv_at hl 3 rfl) ?_
      refine va_sld hx hb hX hbl hbA hS (vp_in_nI (by omega) (by omega)) dL_law_28 ?_
      refine lv_bipush (v := 31) hx hb dL_law_29 (by decide) ?_
      refine lv_iand hx hb dL_law_31 ?_
      refine lv_topi (fun z ez => ?_)
      by_cases h1 : z.toInt < 0
      · exact lv_tableOut (tgt := 983) hx hb dL_law_32 (Or.inl h1) (by decide) (kk H locs (L_I_up hI (by omega)) hS)
      by_cases h2 : 25 < z.toInt
      · exact lv_tableOut (tgt := 983) hx hb dL_law_32 (Or.inr h2) (by decide) (kk H locs (L_I_up hI (by omega)) hS)
      rcases (show z.toInt = 0 ∨ z.toInt = 1 ∨ z.toInt = 2 ∨ z.toInt = 3 ∨ z.toInt = 4 ∨ z.toInt = 5 ∨ z.toInt = 6 ∨ z.toInt = 7 ∨ z.toInt = 8 ∨ z.toInt = 9 ∨ z.toInt = 10 ∨ z.toInt = 11 ∨ z.toInt = 12 ∨ z.toInt = 13 ∨ z.toInt = 14 ∨ z.toInt = 15 ∨ z.toInt = 16 ∨ z.toInt = 17 ∨ z.toInt = 18 ∨ z.toInt = 19 ∨ z.toInt = 20 ∨ z.toInt = 21 ∨ z.toInt = 22 ∨ z.toInt = 23 ∨ z.toInt = 24 ∨ z.toInt = 25 by omega) with hk | hk | hk | hk | hk | hk | hk | hk | hk | hk | hk | hk | hk | hk | hk | hk | hk | hk | hk | hk | hk | hk | hk | hk | hk | hk
      · exact lv_tableIn (tgt := 152) hx hb dL_law_32 h1 h2 (by rw [hk]; rfl) (by decide) (law_write C0 hK hB hi hL hI hS hl kk)
      · exact lv_tableIn (tgt := 175) hx hb dL_law_32 h1 h2 (by rw [hk]; rfl) (by decide) (law_wipe C0 hK hB hi hL hI hS hl kk)
      · exact lv_tableIn (tgt := 188) hx hb dL_law_32 h1 h2 (by rw [hk]; rfl) (by decide) (law_fault C0 hK hB hi hL hI hS hl kk)
      · exact lv_tableIn (tgt := 201) hx hb dL_law_32 h1 h2 (by rw [hk]; rfl) (by decide) (law_paper C0 hK hB hi hL hI hS hl kk)
      · exact lv_tableIn (tgt := 214) hx hb dL_law_32 h1 h2 (by rw [hk]; rfl) (by decide) (law_reference C0 hK hB hi hL hI hS hl kk)
      · exact lv_tableIn (tgt := 257) hx hb dL_law_32 h1 h2 (by rw [hk]; rfl) (by decide) (law_put C0 hK hB hi hL hI hS hl kk)
      · exact lv_tableIn (tgt := 290) hx hb dL_law_32 h1 h2 (by rw [hk]; rfl) (by decide) (law_cut C0 hK hB hi hL hI hS hl kk)
      · exact lv_tableIn (tgt := 323) hx hb dL_law_32 h1 h2 (by rw [hk]; rfl) (by decide) (law_move C0 hK hB hi hL hI hS hl kk)
      · exact lv_tableIn (tgt := 366) hx hb dL_law_32 h1 h2 (by rw [hk]; rfl) (by decide) (law_respell C0 hK hB hi hL hI hS hl kk)
      · exact lv_tableIn (tgt := 409) hx hb dL_law_32 h1 h2 (by rw [hk]; rfl) (by decide) (law_undo C0 hK hB hi hL hI hS hl kk)
      · exact lv_tableIn (tgt := 422) hx hb dL_law_32 h1 h2 (by rw [hk]; rfl) (by decide) (law_found C0 hK hB hi hL hI hS hl kk)
      · exact lv_tableIn (tgt := 465) hx hb dL_law_32 h1 h2 (by rw [hk]; rfl) (by decide) (law_aCase C0 hK hB hi hL hI hS hl kk)
      · exact lv_tableIn (tgt := 498) hx hb dL_law_32 h1 h2 (by rw [hk]; rfl) (by decide) (law_table C0 hK hB hi hL hI hS hl kk)
      · exact lv_tableIn (tgt := 521) hx hb dL_law_32 h1 h2 (by rw [hk]; rfl) (by decide) (law_shorter C0 hK hB hi hL hI hS hl kk)
      · exact lv_tableIn (tgt := 564) hx hb dL_law_32 h1 h2 (by rw [hk]; rfl) (by decide) (law_print C0 hK hB hi hL hI hS hl kk)
      · exact lv_tableIn (tgt := 597) hx hb dL_law_32 h1 h2 (by rw [hk]; rfl) (by decide) (law_judge C0 hK hB hi hL hI hS hl kk)
      · exact lv_tableIn (tgt := 660) hx hb dL_law_32 h1 h2 (by rw [hk]; rfl) (by decide) (law_see C0 hK hB hi hL hI hS hl kk)
      · exact lv_tableIn (tgt := 703) hx hb dL_law_32 h1 h2 (by rw [hk]; rfl) (by decide) (law_unsee C0 hK hB hi hL hI hS hl kk)
      · exact lv_tableIn (tgt := 716) hx hb dL_law_32 h1 h2 (by rw [hk]; rfl) (by decide) (law_which C0 hK hB hi hL hI hS hl kk)
      · exact lv_tableIn (tgt := 739) hx hb dL_law_32 h1 h2 (by rw [hk]; rfl) (by decide) (law_share C0 hK hB hi hL hI hS hl kk)
      · exact lv_tableIn (tgt := 788) hx hb dL_law_32 h1 h2 (by rw [hk]; rfl) (by decide) (law_lost C0 hK hB hi hL hI hS hl kk)
      · exact lv_tableIn (tgt := 837) hx hb dL_law_32 h1 h2 (by rw [hk]; rfl) (by decide) (law_seed C0 hK hB hi hL hI hS hl kk)
      · exact lv_tableIn (tgt := 891) hx hb dL_law_32 h1 h2 (by rw [hk]; rfl) (by decide) (law_drawn C0 hK hB hi hL hI hS hl kk)
      · exact lv_tableIn (tgt := 914) hx hb dL_law_32 h1 h2 (by rw [hk]; rfl) (by decide) (law_keep C0 hK hB hi hL hI hS hl kk)
      · exact lv_tableIn (tgt := 937) hx hb dL_law_32 h1 h2 (by rw [hk]; rfl) (by decide) (law_again C0 hK hB hi hL hI hS hl kk)
      · exact lv_tableIn (tgt := 960) hx hb dL_law_32 h1 h2 (by rw [hk]; rfl) (by decide) (law_count C0 hK hB hi hL hI hS hl kk)
