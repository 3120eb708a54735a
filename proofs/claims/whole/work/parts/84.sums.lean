/-! factorials, powers, counts of bits, fractions in lowest terms -/
section
variable {N : Nat}
def facN : Nat → Nat
  | 0 => 1
  | k + 1 => facN k * (k + 1)
theorem facN_s (k : Nat) : facN (k + 1) = facN k * (k + 1) := rfl
theorem x_fac (hN : 2000 ≤ N) {k : Nat} (hk : k ≤ 8) : f_X6_factorial N (nI k) = some (nI (facN k)) := by
  unfold f_X6_factorial
  by_cases q : k < 2
  · obtain ⟨m, rfl⟩ : ∃ m, N = m + 1 := ⟨N - 1, by omega⟩
    simp only [lp_X6_factorial_4]
    rw [if_pos (show nI k < 2 from nI_lt (b := 2) q (by omega)), e_b1, e_u1]
    rcases (show k = 0 ∨ k = 1 by omega) with rfl | rfl <;> rfl
  · have main := lp_up (fun m i (s : Int32) => lp_X6_factorial_4 (nI k) m s (nI i)) (k + 1) (fun i s => 2 ≤ i ∧ s = nI (facN (i - 1))) (fun s => s = nI (facN k))
      (fun m s w => ⟨s, by
        simp only [lp_X6_factorial_4]
        rw [if_pos (nI_lt (by omega) (by omega))], w.2⟩)
      (fun m i s hi w => by
        refine Or.inr ⟨nI (facN i), ⟨by omega, by rw [show i + 1 - 1 = i by omega]⟩, ?_⟩
        simp only [lp_X6_factorial_4]
        obtain ⟨j, rfl⟩ : ∃ j, i = j + 1 := ⟨i - 1, by omega⟩
        rw [if_neg (nI_nlt (by omega) (by omega)), if_neg (show ¬ (8 : Int32) < nI (j + 1) from nI_nlt (a := 8) (by omega) (by omega)), w.2, pk_mul, e_nm, nI_1, e_nm, facN_s, show j + 1 - 1 = j by omega])
      N 2 1 (by omega) (by omega) ⟨Nat.le_refl _, rfl⟩
    obtain ⟨s, k1, k2⟩ := main
    rw [show lp_X6_factorial_4 (nI k) N 1 2 = some s from k1, e_b1, e_u1, k2]
theorem m_fac (hN : 2000 ≤ N) {k : Nat} (hk : k ≤ 8) : f_X7_factorial N (nI k) = some (nI (facN k)) := by
  unfold f_X7_factorial
  by_cases q : k < 2
  · obtain ⟨m, rfl⟩ : ∃ m, N = m + 1 := ⟨N - 1, by omega⟩
    simp only [lp_X7_factorial_4]
    rw [if_pos (show nI k < 2 from nI_lt (b := 2) q (by omega)), e_b1, e_u1]
    rcases (show k = 0 ∨ k = 1 by omega) with rfl | rfl <;> rfl
  · have main := lp_up (fun m i (s : Int32) => lp_X7_factorial_4 (nI k) m s (nI i)) (k + 1) (fun i s => 2 ≤ i ∧ s = nI (facN (i - 1))) (fun s => s = nI (facN k))
      (fun m s w => ⟨s, by
        simp only [lp_X7_factorial_4]
        rw [if_pos (nI_lt (by omega) (by omega))], w.2⟩)
      (fun m i s hi w => by
        refine Or.inr ⟨nI (facN i), ⟨by omega, by rw [show i + 1 - 1 = i by omega]⟩, ?_⟩
        simp only [lp_X7_factorial_4]
        obtain ⟨j, rfl⟩ : ∃ j, i = j + 1 := ⟨i - 1, by omega⟩
        rw [if_neg (nI_nlt (by omega) (by omega)), w.2, pk_mul, e_nm, nI_1, e_nm, facN_s, show j + 1 - 1 = j by omega])
      N 2 1 (by omega) (by omega) ⟨Nat.le_refl _, rfl⟩
    obtain ⟨s, k1, k2⟩ := main
    rw [show lp_X7_factorial_4 (nI k) N 1 2 = some s from k1, e_b1, e_u1, k2]
theorem x_pow (hN : 2000 ≤ N) {b e : Nat} (he : e ≤ 8) : f_X6_power N (nI b) (nI e) = some (nI (b ^ e)) := by
  have main := lp_up (fun m i (s : Int32) => lp_X6_power_4 (nI b) (nI e) m s (nI i)) e (fun i s => s = nI (b ^ i)) (fun s => s = nI (b ^ e))
    (fun m s w => ⟨s, by
      simp only [lp_X6_power_4]
      rw [if_pos (nI_le (Nat.le_refl _) (by omega))], w⟩)
    (fun m i s hi w => by
      refine Or.inr ⟨nI (b ^ (i + 1)), rfl, ?_⟩
      simp only [lp_X6_power_4]
      rw [if_neg (nI_ge hi (by omega)), if_neg (show ¬ (8 : Int32) ≤ nI i from nI_ge (b := 8) (by omega) (by omega)), w, pk_mul, ← Nat.pow_succ, e_nm, nI_1, e_nm])
    N 0 1 (by omega) (by omega) rfl
  obtain ⟨s, k1, k2⟩ := main
  unfold f_X6_power
  rw [show lp_X6_power_4 (nI b) (nI e) N 1 0 = some s from k1, e_b1, e_u1, k2]
theorem m_pow (hN : 2000 ≤ N) {b e : Nat} (he : e ≤ 8) : f_X7_power N (nI b) (nI e) = some (nI (b ^ e)) := by
  have main := lp_up (fun m i (s : Int32) => lp_X7_power_4 (nI b) (nI e) m s (nI i)) e (fun i s => s = nI (b ^ i)) (fun s => s = nI (b ^ e))
    (fun m s w => ⟨s, by
      simp only [lp_X7_power_4]
      rw [if_pos (nI_le (Nat.le_refl _) (by omega))], w⟩)
    (fun m i s hi w => by
      refine Or.inr ⟨nI (b ^ (i + 1)), rfl, ?_⟩
      simp only [lp_X7_power_4]
      rw [if_neg (nI_ge hi (by omega)), w, pk_mul, ← Nat.pow_succ, e_nm, nI_1, e_nm])
    N 0 1 (by omega) (by omega) rfl
  obtain ⟨s, k1, k2⟩ := main
  unfold f_X7_power
  rw [show lp_X7_power_4 (nI b) (nI e) N 1 0 = some s from k1, e_b1, e_u1, k2]
/-! bits of a part -/
def pc (P : Nat) : Nat := fb_ct (fun i => P.testBit i) 8
theorem x_pc {P : Nat} (hP : P < 256) : f_J6_bitCount_0f7a4 (nI P) = some (nI (pc P)) := by
  rw [x_bc]
  congr 2
  have e1 : fb_ct (bt (nI P)) 32 = fb_ct (fun i => P.testBit i) 32 := fb_ct_cong (fun k hk => bt_nI hk)
  rw [e1]
  unfold pc
  have := fb_ct_split (fun i => P.testBit i) 8 24
  rw [show 8 + 24 = 32 from rfl] at this
  rw [this, show fb_ct (fun k => P.testBit (8 + k)) 24 = 0 from fb_ct_zero.mpr (fun k hk => Nat.testBit_lt_two_pow (Nat.lt_of_lt_of_le hP (by
    rw [show 256 = 2 ^ 8 from rfl]
    exact Nat.pow_le_pow_right (by omega) (by omega))))]
  rfl
theorem m_ones (hN : 2000 ≤ N) {P : Nat} (hP : P < 256) : f_X7_ones N (nI P) = some (nI (pc P)) := by
  have main := lp_up (fun m i (s : Int32) => lp_X7_ones_4 (nI P) m s (nI i)) 8 (fun i s => s = nI (fb_ct (fun i => P.testBit i) i)) (fun s => s = nI (pc P))
    (fun m s w => ⟨s, by
      simp only [lp_X7_ones_4]
      rw [if_pos (show (8 : Int32) ≤ nI 8 from by decide)], w⟩)
    (fun m i s hi w => by
      refine Or.inr ⟨nI (fb_ct (fun i => P.testBit i) (i + 1)), rfl, ?_⟩
      simp only [lp_X7_ones_4]
      rw [if_neg (show ¬ (8 : Int32) ≤ nI i from nI_ge (b := 8) hi (by omega)), q_bit _ (by omega), bt_nI (by omega), w, fb_ct_succ]
      cases P.testBit i with
      | false => rw [bt0, i_p0, e_nm, nI_1, e_nm, if_neg (by decide)]; rfl
      | true => rw [show b1 true = 1 from rfl, nI_1, e_nm, nI_1, e_nm, if_pos rfl])
    N 0 0 (by omega) (by omega) rfl
  obtain ⟨s, k1, k2⟩ := main
  unfold f_X7_ones
  rw [show lp_X7_ones_4 (nI P) N 0 0 = some s from k1, e_b1, e_u1, k2]
theorem pt_own : ∀ a, a < 8 → ∀ P, P < 256 → (nI P ||| ((1 : Int32) <<< (nI a &&& 31))) = nI (P ||| 2 ^ a) ∧ (if P.testBit a = true then ¬ (nI P &&& ((1 : Int32) <<< (nI a &&& 31))) = 0 else (nI P &&& ((1 : Int32) <<< (nI a &&& 31))) = 0) := by decide +kernel
theorem pt_two : ∀ n, n < 9 → (1 : Int32) <<< (nI n &&& 31) = nI (2 ^ n) := by decide +kernel
theorem pc_le {n P : Nat} (hn : n ≤ 8) (hP : P < 2 ^ n) : pc P ≤ n := by
  unfold pc
  have := fb_ct_split (fun i => P.testBit i) n (8 - n)
  rw [show n + (8 - n) = 8 by omega] at this
  rw [this, show fb_ct (fun k => P.testBit (n + k)) (8 - n) = 0 from fb_ct_zero.mpr (fun k hk => Nat.testBit_lt_two_pow (Nat.lt_of_lt_of_le hP (Nat.pow_le_pow_right (by omega) (by omega))))]
  exact fb_ct_le _ n
theorem pc_lt {n P a : Nat} (hn : n ≤ 8) (hP : P < 2 ^ n) (hA : a < n) (h : P.testBit a = false) : pc P + 1 ≤ n := by
  have e := fb_ct_upd (fun i => P.testBit i) true (i := a) (n := 8) (by omega)
  have l : fb_ct (fun k => if k = a then true else P.testBit k) 8 ≤ n := by
    have := fb_ct_split (fun k => if k = a then true else P.testBit k) n (8 - n)
    rw [show n + (8 - n) = 8 by omega] at this
    rw [this, show fb_ct (fun k => if n + k = a then true else P.testBit (n + k)) (8 - n) = 0 from fb_ct_zero.mpr (fun k hk => by
      show (if n + k = a then true else P.testBit (n + k)) = false
      rw [if_neg (by omega)]
      exact Nat.testBit_lt_two_pow (Nat.lt_of_lt_of_le hP (Nat.pow_le_pow_right (by omega) (by omega))))]
    exact fb_ct_le _ n
  rw [if_neg (show ¬ P.testBit a = true by rw [h]; decide), if_pos (show true = true from rfl)] at e
  have : pc P = fb_ct (fun i => P.testBit i) 8 := rfl
  omega
/-! the greatest common divisor: in few steps, and the same -/
theorem half_mod {a b : Nat} (h : 0 < b) (hb : b < a) : 2 * (a % b) < a := by
  have h1 := Nat.mod_lt a h
  have h2 := Nat.div_add_mod a b
  have h3 : 1 ≤ a / b := (Nat.one_le_div_iff h).mpr (by omega)
  have h4 : b * 1 ≤ b * (a / b) := Nat.mul_le_mul_left b h3
  omega
theorem gc_st (m c : Nat) (x y : Int32) (hy : y ≠ 0) (hc : c < 64) : lp_X6_commonDivisor_7 (m + 1) x y (nI c) = lp_X6_commonDivisor_7 m y (x - x / y * y) (nI (c + 1)) := by
  simp only [lp_X6_commonDivisor_7]
  unfold pn_nz
  rw [if_neg (show ¬ (64 : Int32) ≤ nI c from nI_ge (b := 64) hc (by omega)), if_neg hy, if_neg hy, e_nm, e_nm, nI_1]
theorem gm_st (m : Nat) (x y : Int32) (hy : y ≠ 0) : lp_X7_divisor_13 (m + 1) x y = lp_X7_divisor_13 m y (x - x / y * y) := by
  simp only [lp_X7_divisor_13]
  unfold pn_nz
  rw [if_neg hy, if_neg hy, e_nm]
theorem gc_0 (m c : Nat) (x : Int32) (hc : c < 64) : lp_X6_commonDivisor_7 (m + 1) x 0 (nI c) = some x := by
  simp only [lp_X6_commonDivisor_7]
  rw [if_neg (show ¬ (64 : Int32) ≤ nI c from nI_ge (b := 64) hc (by omega)), if_pos trivial]
theorem gm_0 (m : Nat) (x : Int32) : lp_X7_divisor_13 (m + 1) x 0 = some x := by
  simp only [lp_X7_divisor_13]
  rw [if_pos trivial]
theorem rm_abs (x y : Int32) : (x - x / y * y).toInt.natAbs = x.toInt.natAbs % y.toInt.natAbs := by
  rw [rem_toInt, Int.natAbs_tmod]
theorem gcd_loop : ∀ (k m m' c : Nat) (x y : Int32), y.toInt.natAbs < 2 ^ k → x ≠ 0 ∨ y ≠ 0 → 2 * k + 2 < m → 2 * k + 2 < m' → c + 2 * k + 2 < 64 → ∃ g, g ≠ 0 ∧ lp_X6_commonDivisor_7 m x y (nI c) = some g ∧ lp_X7_divisor_13 m' x y = some g := by
  intro k
  induction k with
  | zero =>
    intro m m' c x y hy hz h1 h2 h3
    have y0 : y = 0 := by
      rw [i_eq, Int32.toInt_zero]
      omega
    subst y0
    obtain ⟨m, rfl⟩ : ∃ j, m = j + 1 := ⟨m - 1, by omega⟩
    obtain ⟨m', rfl⟩ : ∃ j, m' = j + 1 := ⟨m' - 1, by omega⟩
    exact ⟨x, hz.resolve_right (fun w => w rfl), gc_0 m c x (by omega), gm_0 m' x⟩
  | succ k ih =>
    intro m m' c x y hy hz h1 h2 h3
    obtain ⟨m, rfl⟩ : ∃ j, m = j + 2 := ⟨m - 2, by omega⟩
    obtain ⟨m', rfl⟩ : ∃ j, m' = j + 2 := ⟨m' - 2, by omega⟩
    by_cases y0 : y = 0
    · subst y0
      exact ⟨x, hz.resolve_right (fun w => w rfl), gc_0 (m + 1) c x (by omega), gm_0 (m' + 1) x⟩
    · rw [gc_st (m + 1) c x y y0 (by omega), gm_st (m' + 1) x y y0]
      have a1 := rm_abs x y
      have ypos : 0 < y.toInt.natAbs := by
        rcases Nat.eq_zero_or_pos y.toInt.natAbs with w | w
        · exfalso
          apply y0
          rw [i_eq, Int32.toInt_zero]
          omega
        · exact w
      generalize x - x / y * y = r at a1 ⊢
      have r1 : r.toInt.natAbs < y.toInt.natAbs := by rw [a1]; exact Nat.mod_lt _ ypos
      by_cases r0 : r = 0
      · subst r0
        exact ⟨y, y0, gc_0 m (c + 1) y (by omega), gm_0 m' y⟩
      · rw [gc_st m (c + 1) y r r0 (by omega), gm_st m' y r r0]
        have a2 := rm_abs y r
        generalize y - y / r * r = s at a2 ⊢
        have rpos : 0 < r.toInt.natAbs := by
          rcases Nat.eq_zero_or_pos r.toInt.natAbs with w | w
          · exfalso
            apply r0
            rw [i_eq, Int32.toInt_zero]
            omega
          · exact w
        have hh := half_mod rpos r1
        have hp : 2 ^ (k + 1) = 2 * 2 ^ k := by rw [Nat.pow_succ, Nat.mul_comm]
        exact ih m m' (c + 1 + 1) r s (by rw [a2]; omega) (Or.inl r0) (by omega) (by omega) (by omega)
theorem frac_eq (hN : 2000 ≤ N) {b : Nat} (h0 : 0 < b) (hb : b < 2 ^ 27) (x u : Int32) : ∃ a, f_X6_partOfFraction N x (nI b) u = some a ∧ f_X7_fraction N x (nI b) u = some a := by
  have key : ∀ y : Int32, ∃ g, g ≠ 0 ∧ lp_X6_commonDivisor_7 N y (nI b) 0 = some g ∧ lp_X7_divisor_13 N y (nI b) = some g := by
    intro y
    obtain ⟨g, g1, g2, g3⟩ := gcd_loop 27 N N 0 y (nI b) (by rw [nI_toInt (by omega)]; omega) (Or.inr (nI_ne0 h0 (by omega))) (by omega) (by omega) (by omega)
    exact ⟨g, g1, g2, g3⟩
  unfold f_X6_partOfFraction f_X7_fraction f_X6_commonDivisor f_X7_divisor
  have fin : ∀ g : Int32, g ≠ 0 → ∃ a, (if ¬ g = 0 then (if u = 0 then pn_nz g (some (nI b / g)) else pn_nz g (some (x / g))) else some (0 : Int32)) = some a ∧ (if u = 0 then pn_nz g (some (nI b / g)) else pn_nz g (some (x / g))) = some a := by
    intro g g0
    unfold pn_nz
    rw [if_pos g0, if_neg g0, if_neg g0]
    by_cases q : u = 0
    · rw [if_pos q]; exact ⟨_, rfl, rfl⟩
    · rw [if_neg q]; exact ⟨_, rfl, rfl⟩
  by_cases q : 0 ≤ x
  · obtain ⟨g, g1, g2, g3⟩ := key x
    rw [if_pos q, if_pos q, g2, g3, e_b1, e_u1, e_b1, e_b1]
    exact fin g g1
  · obtain ⟨g, g1, g2, g3⟩ := key (0 - x)
    rw [if_neg q, if_neg q, g2, e_b1, e_u1, e_b1, e_nm, show -x = 0 - x from by simp, g3, e_b1, e_u1, e_b1]
    exact fin g g1
end
