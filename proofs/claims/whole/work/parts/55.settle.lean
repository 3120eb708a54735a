/-! the class settles what a reference finds -/
def oJ (x : Option Nat) : Int32 := match x with
  | none => -1
  | some c => nI c
theorem m1_lt : (-1 : Int32) < 0 := by decide
theorem oJ_neg (x : Option Nat) (hx : ∀ c, x = some c → c < 2 ^ 31) : (0 ≤ oJ x) = (x ≠ none) := by
  cases x with
  | none => simp only [oJ, ne_eq, not_true_eq_false, eq_iff_iff, iff_false]; decide
  | some c => simp only [oJ, ne_eq, reduceCtorEq, not_false_eq_true, eq_iff_iff, iff_true]; exact nI_pos' (hx c rfl)
def al (x : Option Nat) : Nat := if x = none then 0 else 1
def fbs (fb : Nat → Int32) (t : Nat) (x : Option Nat) : Nat → Int32 := match x with
  | none => fb
  | some c => upd fb t (fb t ||| ((1 : Int32) <<< (nI c &&& 31)))
theorem x_settle {a d r rs : Nat} (hr : r < 32) {ca fb ra : Nat → Int32} {x : Option Nat} (hx : ∀ c, x = some c → c < 32) :
    f_X4_settle (nI a) (nI d) ca fb ra (nI r) (oJ x) (nI rs) = some (nI (a + al x), nI (d + (1 - al x)), upd ca r (oJ x), fbs fb (r / 4) x, upd ra r (nI (if x = none then rs else 0))) := by
  unfold f_X4_settle
  rw [div4 r (by omega), e_nm, if_neg (nI_pos (by omega)), if_neg (show ¬ (32 : Int32) ≤ nI r from nI_ge (b := 32) hr (by omega)), if_pos (show nI (r / 4) < (8 : Int32) from nI_lt (b := 8) (by omega) (by omega)), e_wrI _ _ _ hr (by omega)]
  unfold j_X4_settle_44
  cases x with
  | none =>
    rw [if_neg (show ¬ (0 : Int32) ≤ oJ none from by decide), e_wrI _ _ _ hr (by omega), if_neg (show ¬ (0 : Int32) ≤ oJ none from by decide), e_nm, nI_1]
    rfl
  | some c =>
    have hc := hx c rfl
    have h0 : (0 : Int32) ≤ oJ (some c) := nI_pos' (by omega)
    rw [if_pos h0, e_wrI _ _ _ hr (by omega), if_pos h0, e_nm, nI_1, e_rd _ _ (by omega) (by omega), e_wrI _ _ _ (by omega) (by omega)]
    rfl
theorem y_pw : ∀ c, c < 32 → fb_ct (bt (((1 : Int32) <<< (nI c &&& 31)) - 1)) 32 = c := by decide +kernel
theorem ct_part {Q : Nat → Bool} {m : Nat} (hm : m ≤ 32) {x : Int32} (hx : ∀ c, c < 32 → bt x c = (decide (c < m) && Q c)) : fb_ct (bt x) 32 = fb_ct Q m := by
  have h1 : fb_ct (bt x) m = fb_ct Q m := fb_ct_cong (fun k hk => by rw [hx k (by omega)]; simp [hk])
  have h2 : fb_ct (fun k => bt x (m + k)) (32 - m) = 0 := fb_ct_zero.mpr (fun k hk => by
    show bt x (m + k) = false
    rw [hx (m + k) (by omega), decide_eq_false (show ¬ m + k < m by omega)]; rfl)
  have := fb_ct_split (bt x) m (32 - m)
  rw [show m + (32 - m) = 32 by omega] at this
  rw [this, h1, h2]; rfl
theorem one_bit {Q : Nat → Bool} {m c : Nat} (hm : m ≤ 32) (hc : c < m) (h1 : fb_ct Q m = 1) (hQ : Q c = true) : ∀ d, d < m → Q d = decide (d = c) := by
  intro d hd
  by_cases e : d = c
  · subst e; rw [hQ]; simp
  · cases hQd : Q d with
    | false => simp [e]
    | true =>
      exfalso
      have a := fb_ct_upd Q false (i := c) (n := m) hc
      rw [hQ] at a
      have b : 0 < fb_ct (fun k => if k = c then false else Q k) m := fb_ct_pos.mpr ⟨d, hd, by simp [e, hQd]⟩
      have h3 : (if true = true then (1 : Nat) else 0) = 1 := rfl
      have h4 : (if false = true then (1 : Nat) else 0) = 0 := rfl
      rw [h3, h4] at a
      omega
theorem x_only {a d r : Nat} (hr : r < 32) {ca fb ra : Nat → Int32} {Q : Nat → Bool} {m : Nat} (hm : m ≤ 32) {x : Int32} (hx : ∀ c, c < 32 → bt x c = (decide (c < m) && Q c)) :
    f_X4_settleOnly (nI a) (nI d) ca fb ra (nI r) x = some (nI (a + al (uqS Q m).1), nI (d + (1 - al (uqS Q m).1)), upd ca r (oJ (uqS Q m).1), fbs fb (r / 4) (uqS Q m).1, upd ra r (nI (uqS Q m).2)) := by
  have hct := ct_part hm hx
  unfold f_X4_settleOnly
  rw [x_bc, e_b1, hct]
  rcases uq_char Q m (by omega) with ⟨h1, h2⟩ | ⟨c, hc, h1, hQ, h2⟩ | ⟨h1, h2⟩
  · have hu : uqS Q m = (none, 1) := by unfold uqS; rw [if_pos h2]
    rw [h1, if_pos (by decide), hu]
    unfold j_X4_settleOnly_20
    rw [if_neg (by decide), show f_X4_settle (nI a) (nI d) ca fb ra (nI r) (-1) 1 = _ from x_settle (rs := 1) (x := none) hr (fun c hc => by cases hc), e_b5]
    rfl
  · have hu : uqS Q m = (some c, 0) := by unfold uqS; rw [h2, if_neg (n_m9 (by omega)), if_neg (n_m10 (by omega)), nI_clamp (by omega)]
    have hone := one_bit hm hc h1 hQ
    have hxe : x = (1 : Int32) <<< (nI c &&& 31) := bt_inj (fun k hk => by
      rw [hx k hk, bt_one (by omega) hk]
      by_cases e : k < m
      · rw [hone k e]; simp [e]
      · have : k ≠ c := by omega
        simp [e, this])
    rw [h1, if_neg (fun w => w rfl), x_bc, e_b1, hxe, y_pw c (by omega), hu]
    unfold j_X4_settleOnly_20
    rw [if_pos (by decide), show f_X4_settle (nI a) (nI d) ca fb ra (nI r) (nI c) 2 = _ from x_settle (rs := 2) (x := some c) hr (fun e he => by cases he; omega), e_b5]
    rfl
  · have hu : uqS Q m = (none, 2) := by unfold uqS; rw [h2, if_neg (by decide), if_pos rfl]
    have hle := fb_ct_le Q m
    rw [if_pos (show ¬ nI (fb_ct Q m) = 1 from fun w => by have := (nI_eq (b := 1) (by omega) (by omega)).mp w; omega), hu]
    unfold j_X4_settleOnly_20
    rw [if_pos (nI_ne0 (by omega) (by omega)), show f_X4_settle (nI a) (nI d) ca fb ra (nI r) (-1) 2 = _ from x_settle (rs := 2) (x := none) hr (fun c hc => by cases hc), e_b5]
    rfl
theorem x_pt {n : Nat} {z : Nat → Nat} {G : Nat → Nat → Nat} (ha : aP n z G) {sz : Nat → Int32} {ci : Nat → Int64} (hc : cP n z G (nI n) sz ci) {L a j : Nat} (h8 : a < 8) (hj : j < 4) : f_X4_pointedAt (nI n) sz (nI a) (nI j) (oJ (lastN n L a)) = some (oJ (pt n z L (4 * a + j))) := by
  unfold f_X4_pointedAt pt
  rw [show (4 * a + j) % 4 = j by omega, show (4 * a + j) / 4 = a by omega]
  by_cases c0 : 0 < j
  · rw [if_neg (nI_nle c0 (by omega)), if_pos c0, n_m1 (by omega), x_slot, e_b1]
    show some (nI (4 * a + (j - 1))) = some (nI (4 * a + j - 1))
    rw [show 4 * a + (j - 1) = 4 * a + j - 1 by omega]
  · rw [if_pos (by rw [show j = 0 by omega]; decide), if_neg c0]
    cases hl : lastN n L a with
    | none => rw [if_pos (by decide)]; rfl
    | some q =>
      have hq := lastN_lt hl
      have hz := (ha.2 q hq.2.1).2.1
      rw [show oJ (some q) = nI q from rfl, if_neg (nI_pos (by omega)), x_size hq.2.1 ha.1, e_b1, (hc.2 q hq.2.1).1]
      simp only
      by_cases c1 : z q = 1
      · rw [if_neg (fun w => w (by rw [c1]; rfl)), if_pos c1, show f_X1_slotOf (nI q) 0 = _ from x_slot q 0, e_b1]; rfl
      · rw [if_pos (show ¬ nI (z q) = 1 from fun w => c1 ((nI_eq (b := 1) (by omega) (by omega)).mp w)), if_neg c1]; rfl
