/-! how many references find something, and how many nothing -/
theorem oI_9 {x : Option Nat} (hx : ∀ c, x = some c → c < 32) : oI x = -9 ↔ x = none := by
  cases x with
  | none => exact ⟨fun _ => rfl, fun _ => rfl⟩
  | some c =>
    refine ⟨fun w => ?_, fun w => by cases w⟩
    have h : ∀ c, c < 32 → ¬ nI c = (-9 : Int32) := by decide +kernel
    exact absurd w (h c (hx c rfl))
theorem i_p0 (x : Int32) : x + 0 = x := by simp
theorem m_many {F : Nat → Option Nat} (hF : ∀ q c, F q = some c → c < 32) {fi : Nat → Int32} (hfi : ∀ r, r < 32 → fi r = oI (F r)) {N : Nat} (hN : 2000 ≤ N) : f_X7_manyFound N fi = some (nI (fb_ct (fun q => decide (F q ≠ none)) 32)) := by
  have main := lp_up (fun n' i (s : Int32) => lp_X7_manyFound_4 fi n' s (nI i)) 32 (fun i s => s = nI (fb_ct (fun q => decide (F q ≠ none)) i)) (fun s => s = nI (fb_ct (fun q => decide (F q ≠ none)) 32))
    (fun m s h => ⟨s, by
      simp only [lp_X7_manyFound_4]
      rw [if_pos (show (32 : Int32) ≤ nI 32 from by decide)], h⟩)
    (fun m i s hi h => by
      refine Or.inr ⟨nI (fb_ct (fun q => decide (F q ≠ none)) (i + 1)), rfl, ?_⟩
      simp only [lp_X7_manyFound_4]
      rw [if_neg (show ¬ (32 : Int32) ≤ nI i from nI_ge (b := 32) hi (by omega)), e_rd _ _ (by omega) (by omega), hfi i hi, h, fb_ct_succ]
      by_cases q : F i = none
      · rw [if_neg (fun w => w ((oI_9 (hF i)).mpr q)), e_nm, e_nm, nI_1, i_p0, if_neg (by simp [q])]
        rfl
      · rw [if_pos (fun w => q ((oI_9 (hF i)).mp w)), e_nm, e_nm, nI_1, nI_1, if_pos (by simp [q])])
    N 0 0 (by omega) (by omega) rfl
  obtain ⟨s, a1, a2⟩ := main
  unfold f_X7_manyFound
  rw [show lp_X7_manyFound_4 fi N 0 0 = some s from a1, e_b1, e_u1, a2]
theorem RS_lf {n : Nat} {z : Nat → Nat} {G : Nat → Nat → Nat} {L : Nat} {lab : Nat → Nat} {F : Nat → Option Nat} {Rn : Nat → Nat} (h : RS n z G L lab F Rn) {r : Nat} (hr : r < 32) (hf : F r ≠ none) : lf n z L r = true := by
  cases hl : lf n z L r with
  | true => rfl
  | false =>
    have := h r hr
    unfold stp at this
    rw [if_neg (fun w => by rw [sp_lf w] at hl; cases hl), if_neg (by rw [hl]; decide)] at this
    exact absurd (congrArg Prod.fst this) hf
theorem RS_alive {n : Nat} {z : Nat → Nat} {G : Nat → Nat → Nat} {L : Nat} {lab : Nat → Nat} {F : Nat → Option Nat} {Rn : Nat → Nat} (h : RS n z G L lab F Rn) : fb_ct (fun q => lf n z L q && decide (F q ≠ none)) 32 = fb_ct (fun q => decide (F q ≠ none)) 32 :=
  fb_ct_cong (fun k hk => by
    by_cases q : F k = none
    · simp [q]
    · rw [RS_lf h hk q, Bool.true_and])
theorem RS_both {n : Nat} {z : Nat → Nat} {L : Nat} {F : Nat → Option Nat} : fb_ct (fun q => lf n z L q) 32 = fb_ct (fun q => lf n z L q && decide (F q ≠ none)) 32 + fb_ct (fun q => lf n z L q && decide (F q = none)) 32 := by
  rw [← fb_ct_or (fun k _ w => by simp at w; exact w.1.2 w.2.2)]
  exact fb_ct_cong (fun k _ => by by_cases q : F k = none <;> simp [q])
theorem m_refs {n : Nat} {z : Nat → Nat} {G : Nat → Nat → Nat} {p : Nat → Int32} (ha : aP n z G) (hm : mP n z G p) {L N : Nat} (hL : L < 2 ^ 31) (hN : 2000 ≤ N) : f_X7_manyRefs N p (nI L) = some (nI (fb_ct (fun q => lf n z L q) 32)) := by
  have main := lp_up (fun n' i (s : Int32) => lp_X7_manyRefs_4 p (nI L) n' s (nI i)) 32 (fun i s => s = nI (fb_ct (fun q => lf n z L q) i)) (fun s => s = nI (fb_ct (fun q => lf n z L q) 32))
    (fun m s h => ⟨s, by
      simp only [lp_X7_manyRefs_4]
      rw [if_pos (show (32 : Int32) ≤ nI 32 from by decide)], h⟩)
    (fun m i s hi h => by
      refine Or.inr ⟨nI (fb_ct (fun q => lf n z L q) (i + 1)), rfl, ?_⟩
      simp only [lp_X7_manyRefs_4]
      rw [if_neg (show ¬ (32 : Int32) ≤ nI i from nI_ge (b := 32) hi (by omega)), m_left ha hm hL (by omega), e_b1, h, fb_ct_succ]
      cases q : lf n z L i with
      | false =>
        rw [if_pos (by decide), e_nm, e_nm, nI_1, i_p0, if_neg (by decide)]
        rfl
      | true => rw [if_neg (by decide), e_nm, e_nm, nI_1, nI_1, if_pos (by decide)])
    N 0 0 (by omega) (by omega) rfl
  obtain ⟨s, a1, a2⟩ := main
  unfold f_X7_manyRefs
  rw [show lp_X7_manyRefs_4 p (nI L) N 0 0 = some s from a1, e_b1, e_u1, a2]
theorem x_all : ∀ n, n < 9 → ((1 : Int32) <<< (nI n &&& 31)) - (1 : Int32) = nI (full n) := by decide +kernel
theorem m_all {n : Nat} {z : Nat → Nat} {G : Nat → Nat → Nat} {p : Nat → Int32} (ha : aP n z G) (hm : mP n z G p) : f_X7_allNotes p = some (nI (full n)) := by
  unfold f_X7_allNotes
  rw [show (0 : Int32) = nI 0 from rfl, e_rd _ _ (by omega) (by omega), hm.1, x_all n (by have := ha.1; omega)]
theorem m_findAll {n : Nat} {z : Nat → Nat} {G : Nat → Nat → Nat} {p : Nat → Int32} (ha : aP n z G) (hm : mP n z G p) {N : Nat} (hN : 2000 ≤ N) (c0 l0 : Int32) (cf0 fi0 lb0 rn0 : Nat → Int32) :
    ∃ (c1 l1 : Int32) (cf fi lb rn : Nat → Int32), f_X7_findAll N c0 l0 cf0 fi0 lb0 rn0 p = some (c1, l1, cf, fi, lb, rn) ∧ eC (fx n z G (full n) (TC n z G (full n)).1) c1 cf ∧ ∀ r, r < 32 → fi r = oI ((TC n z G (full n)).2.1 r) ∧ rn r = nI ((TC n z G (full n)).2.2 r) := by
  obtain ⟨c1, l1, cf, fi, lb, rn, a1, a2, a3⟩ := m_findC ha hm (L := full n) (by have := full_lt n; omega) hN c0 l0 cf0 fi0 lb0 rn0
  refine ⟨c1, l1, cf, fi, lb, rn, ?_, a2, a3⟩
  unfold f_X7_findAll
  rw [m_all ha hm, e_b1, a1, e_b6]
