/-! ints as sets of bits -/
theorem bt_1 (i : Nat) : bt 1 i = decide (i = 0) := by
  unfold bt
  show (1#32).getLsbD i = _
  rw [BitVec.getLsbD_one]
  simp
theorem bt_b1 (b : Bool) (i : Nat) : bt (b1 b) i = (b && decide (i = 0)) := by
  cases b
  · show bt 0 i = _; rw [b_0]; rfl
  · show bt 1 i = _; rw [bt_1]; rfl
theorem q_bit (x : Int32) {k : Nat} (hk : k < 32) : ((x >>> (nI k &&& 31)) &&& 1) = b1 (bt x k) := by
  apply b_ext
  intro i hi
  rw [b_and, b_sshr k hk x hi, bt_1, bt_b1]
  by_cases e : i = 0
  · subst e; simp [hk]
  · simp [e]
theorem q_is (x : Int32) {k : Nat} (hk : k < 32) : (((x >>> (nI k &&& 31)) &&& 1) = 1) = (bt x k = true) := by
  rw [q_bit x hk]
  cases bt x k <;> simp [b1]
theorem q_no (x : Int32) {k : Nat} (hk : k < 32) : (((x >>> (nI k &&& 31)) &&& 1) = 0) = (bt x k = false) := by
  rw [q_bit x hk]
  cases bt x k <;> simp [b1]
theorem bt_one {k i : Nat} (hk : k < 32) (hi : i < 32) : bt ((1 : Int32) <<< (nI k &&& 31)) i = decide (i = k) := by
  rw [b_shl k hk 1 hi, bt_1]
  by_cases e : i = k
  · subst e; simp
  · by_cases q : k ≤ i
    · simp [e, q]; omega
    · simp [e, q]
theorem bt_set (x : Int32) {k i : Nat} (hk : k < 32) (hi : i < 32) : bt (x ||| ((1 : Int32) <<< (nI k &&& 31))) i = (bt x i || decide (i = k)) := by rw [b_or, bt_one hk hi]
theorem bt_m1 {i : Nat} (hi : i < 32) : bt (-1) i = true := b_m1 i hi
theorem bt_sub (x y : Int32) {i : Nat} (hi : i < 32) : bt (x &&& (y ^^^ (-1))) i = (bt x i && !bt y i) := by
  rw [b_and, b_xor, bt_m1 hi]
  cases bt x i <;> cases bt y i <;> rfl
theorem bt_nI {L i : Nat} (hi : i < 32) : bt (nI L) i = L.testBit i := by
  unfold bt
  show (BitVec.ofNat 32 L).getLsbD i = _
  rw [BitVec.getLsbD_ofNat]
  simp [hi]
theorem bt_0 (i : Nat) : bt 0 i = false := b_0 i
theorem bt_15 : ∀ k, k < 8 → ∀ i, i < 32 → bt ((15 : Int32) <<< (nI (4 * k + 0) &&& 31)) i = decide (i / 4 = k) := by decide +kernel
/-! counting bits as the JDK does -/
theorem an_sp {k a b c d : Nat} (ha : a < 2 ^ k) (hc : c < 2 ^ k) : (a + 2 ^ k * b) &&& (c + 2 ^ k * d) = (a &&& c) + 2 ^ k * (b &&& d) := by
  have h : a &&& c < 2 ^ k := Nat.lt_of_le_of_lt Nat.and_le_left ha
  apply Nat.eq_of_testBit_eq
  intro i
  rw [Nat.testBit_and, Nat.add_comm a, Nat.add_comm c, Nat.add_comm (a &&& c), Nat.testBit_two_pow_mul_add _ ha, Nat.testBit_two_pow_mul_add _ hc, Nat.testBit_two_pow_mul_add _ h]
  by_cases q : i < k
  · simp [q, Nat.testBit_and]
  · simp [q, Nat.testBit_and]
def S1 (m x : Nat) : Nat := x - (x / 2 &&& m)
def S2 (m x : Nat) : Nat := (x &&& m) + (x / 4 &&& m)
def S3 (m x : Nat) : Nat := (x + x / 16) &&& m
theorem an_sp8 {a b c d : Nat} (ha : a < 256) (hc : c < 256) : (a + 256 * b) &&& (c + 256 * d) = (a &&& c) + 256 * (b &&& d) := an_sp (k := 8) ha hc
theorem y1 : ∀ v, v < 128 → ∀ t, t < 2 → (v + 128 * t) &&& 85 = v &&& 85 := by decide +kernel
theorem y2 : ∀ v, v < 64 → ∀ t, t < 4 → (v + 64 * t) &&& 51 = v &&& 51 := by decide +kernel
theorem y3 : ∀ v, v < 256 → v / 2 &&& 85 ≤ v := by decide +kernel
theorem S1_sp {v y m : Nat} (hv : v < 256) (hy : y / 2 &&& m ≤ y) : S1 (85 + 256 * m) (v + 256 * y) = S1 85 v + 256 * S1 m y := by
  have h3 := y3 v hv
  unfold S1
  rw [show (v + 256 * y) / 2 = (v / 2 + 128 * (y % 2)) + 256 * (y / 2) by omega, an_sp8 (by omega) (by omega), y1 (v / 2) (by omega) (y % 2) (by omega)]
  omega
theorem y4 : ∀ v, v < 256 → (v &&& 51) + (v / 4 &&& 51) < 256 := by decide +kernel
theorem S2_sp {v y m : Nat} (hv : v < 256) : S2 (51 + 256 * m) (v + 256 * y) = S2 51 v + 256 * S2 m y := by
  unfold S2
  rw [show (v + 256 * y) / 4 = (v / 4 + 64 * (y % 4)) + 256 * (y / 4) by omega, an_sp8 hv (by omega), an_sp8 (by omega) (by omega), y2 (v / 4) (by omega) (y % 4) (by omega)]
  omega
theorem y5 : ∀ v, v < 120 → ∀ t, t < 8 → (v + v / 16 + 16 * t) &&& 15 = (v + v / 16) &&& 15 := by decide +kernel
theorem S3_sp {v y m : Nat} (hv : v < 120) (hy : y % 16 < 8) : S3 (15 + 256 * m) (v + 256 * y) = S3 15 v + 256 * S3 m y := by
  unfold S3
  rw [show v + 256 * y + (v + 256 * y) / 16 = (v + v / 16 + 16 * (y % 16)) + 256 * (y + y / 16) by omega, an_sp8 (by omega) (by omega), y5 v hv (y % 16) hy]
theorem y6 : ∀ v, v < 256 → S1 85 v < 256 ∧ S2 51 (S1 85 v) < 120 ∧ S2 51 (S1 85 v) % 16 < 8 ∧ S3 15 (S2 51 (S1 85 v)) = fb_ct (fun i => v.testBit i) 8 := by decide +kernel
theorem q_half (y m : Nat) : y / 2 &&& m ≤ y := Nat.le_trans Nat.and_le_left (Nat.div_le_self _ _)
theorem pcN {v0 v1 v2 v3 : Nat} (h0 : v0 < 256) (h1 : v1 < 256) (h2 : v2 < 256) (h3 : v3 < 256) :
    S1 1431655765 (v0 + 256 * (v1 + 256 * (v2 + 256 * v3))) < 2 ^ 32 ∧ S2 858993459 (S1 1431655765 (v0 + 256 * (v1 + 256 * (v2 + 256 * v3)))) < 2 ^ 31 ∧
    ∃ t0 t1 t2 t3, t0 ≤ 8 ∧ t1 ≤ 8 ∧ t2 ≤ 8 ∧ t3 ≤ 8 ∧ S3 252645135 (S2 858993459 (S1 1431655765 (v0 + 256 * (v1 + 256 * (v2 + 256 * v3))))) = t0 + 256 * (t1 + 256 * (t2 + 256 * t3)) ∧
      t0 = fb_ct (fun i => v0.testBit i) 8 ∧ t1 = fb_ct (fun i => v1.testBit i) 8 ∧ t2 = fb_ct (fun i => v2.testBit i) 8 ∧ t3 = fb_ct (fun i => v3.testBit i) 8 := by
  have a0 := y6 v0 h0
  have a1 := y6 v1 h1
  have a2 := y6 v2 h2
  have a3 := y6 v3 h3
  have e1 : S1 1431655765 (v0 + 256 * (v1 + 256 * (v2 + 256 * v3))) = S1 85 v0 + 256 * (S1 85 v1 + 256 * (S1 85 v2 + 256 * S1 85 v3)) := by
    rw [show (1431655765 : Nat) = 85 + 256 * (85 + 256 * (85 + 256 * 85)) by decide, S1_sp h0 (q_half _ _), S1_sp h1 (q_half _ _), S1_sp h2 (q_half _ _)]
  have e2 : S2 858993459 (S1 1431655765 (v0 + 256 * (v1 + 256 * (v2 + 256 * v3)))) = S2 51 (S1 85 v0) + 256 * (S2 51 (S1 85 v1) + 256 * (S2 51 (S1 85 v2) + 256 * S2 51 (S1 85 v3))) := by
    rw [e1, show (858993459 : Nat) = 51 + 256 * (51 + 256 * (51 + 256 * 51)) by decide, S2_sp a0.1, S2_sp a1.1, S2_sp a2.1]
  refine ⟨by rw [e1]; omega, by rw [e2]; omega, _, _, _, _, ?_, ?_, ?_, ?_, ?_, rfl, rfl, rfl, rfl⟩
  · exact fb_ct_le _ 8
  · exact fb_ct_le _ 8
  · exact fb_ct_le _ 8
  · exact fb_ct_le _ 8
  · rw [e2, show (252645135 : Nat) = 15 + 256 * (15 + 256 * (15 + 256 * 15)) by decide, S3_sp a0.2.1 (by omega), S3_sp a1.2.1 (by omega), S3_sp a2.2.1 a3.2.2.1, a0.2.2.2, a1.2.2.2, a2.2.2.2, a3.2.2.2]
/-- Integer.bitCount counts the bits -/
theorem x_bc (x : Int32) : f_J6_bitCount_0f7a4 x = some (nI (fb_ct (bt x) 32)) := by
  obtain ⟨X, hX, rfl⟩ := wb_of32 x
  obtain ⟨v0, v1, v2, v3, h0, h1, h2, h3, e⟩ : ∃ v0 v1 v2 v3, v0 < 256 ∧ v1 < 256 ∧ v2 < 256 ∧ v3 < 256 ∧ X = v0 + 256 * (v1 + 256 * (v2 + 256 * v3)) := ⟨X % 256, X / 256 % 256, X / 65536 % 256, X / 16777216, by omega, by omega, by omega, by omega, by omega⟩
  obtain ⟨b1, b2, t0, t1, t2, t3, c0, c1, c2, c3, e3, d0, d1, d2, d3⟩ := pcN h0 h1 h2 h3
  rw [← e] at b1 b2 e3
  have hcnt : fb_ct (bt (nI X)) 32 = t0 + t1 + t2 + t3 := by
    have hb : fb_ct (bt (nI X)) 32 = fb_ct (fun i => X.testBit i) 32 := fb_ct_cong (fun k hk => bt_nI hk)
    have byte : ∀ (j v : Nat), v < 256 → X / 2 ^ j % 256 = v → fb_ct (fun k => X.testBit (j + k)) 8 = fb_ct (fun i => v.testBit i) 8 := by
      intro j v _ hv
      apply fb_ct_cong
      intro k hk
      rw [← hv, show (256 : Nat) = 2 ^ 8 from rfl, Nat.testBit_mod_two_pow, Nat.testBit_div_two_pow, Nat.add_comm k j]
      simp [hk]
    rw [hb, show (32 : Nat) = 8 + (8 + (8 + 8)) from rfl, fb_ct_split, fb_ct_split, fb_ct_split, d0, d1, d2, d3]
    have g0 := byte 0 v0 h0 (by omega)
    have g1 := byte 8 v1 h1 (by omega)
    have g2 := byte 16 v2 h2 (by omega)
    have g3 := byte 24 v3 h3 (by omega)
    simp only [Nat.zero_add] at g0
    rw [g0, g1]
    have f2 : fb_ct (fun k => X.testBit (8 + (8 + k))) 8 = fb_ct (fun k => X.testBit (16 + k)) 8 := fb_ct_cong (fun k _ => by rw [show 8 + (8 + k) = 16 + k by omega])
    have f3 : fb_ct (fun k => X.testBit (8 + (8 + (8 + k)))) 8 = fb_ct (fun k => X.testBit (24 + k)) 8 := fb_ct_cong (fun k _ => by rw [show 8 + (8 + (8 + k)) = 24 + k by omega])
    rw [f2, f3, g2, g3]
    omega
  unfold f_J6_bitCount_0f7a4
  rw [pk_ushrN hX 1 1 (by decide), show (1431655765 : Int32) = nI 1431655765 from rfl, nx_and, show X / 2 ^ 1 = X / 2 from rfl, pk_sub (q_half X 1431655765), e_nm]
  rw [show X - (X / 2 &&& 1431655765) = S1 1431655765 X from rfl, pk_ushrN b1 2 2 (by decide), show (858993459 : Int32) = nI 858993459 from rfl, nx_and, nx_and, nI_add, e_nm]
  rw [show (S1 1431655765 X &&& 858993459) + (S1 1431655765 X / 2 ^ 2 &&& 858993459) = S2 858993459 (S1 1431655765 X) from rfl, pk_ushrN (by omega) 4 4 (by decide), nI_add, show (252645135 : Int32) = nI 252645135 from rfl, nx_and, e_nm]
  rw [show (S2 858993459 (S1 1431655765 X) + S2 858993459 (S1 1431655765 X) / 2 ^ 4) &&& 252645135 = S3 252645135 (S2 858993459 (S1 1431655765 X)) from rfl, e3, pk_ushrN (by omega) 8 8 (by decide), nI_add, e_nm, pk_ushrN (by omega) 16 16 (by decide), nI_add, e_nm]
  rw [show (63 : Int32) = nI (2 ^ 6 - 1) from rfl, fa_mask, hcnt]
  have fin : ∀ a b c d : Nat, a ≤ 8 → b ≤ 8 → c ≤ 8 → d ≤ 8 → (a + 256 * (b + 256 * (c + 256 * d)) + (a + 256 * (b + 256 * (c + 256 * d))) / 2 ^ 8 + (a + 256 * (b + 256 * (c + 256 * d)) + (a + 256 * (b + 256 * (c + 256 * d))) / 2 ^ 8) / 2 ^ 16) % 2 ^ 6 = a + b + c + d := by
    intro a b c d ha hb hc hd
    rw [show (a + 256 * (b + 256 * (c + 256 * d))) / 2 ^ 8 = b + 256 * (c + 256 * d) by rw [show (2 : Nat) ^ 8 = 256 from rfl]; omega]
    rw [show (a + 256 * (b + 256 * (c + 256 * d)) + (b + 256 * (c + 256 * d))) / 2 ^ 16 = c + d + 256 * d by rw [show (2 : Nat) ^ 16 = 65536 from rfl]; omega]
    rw [show (2 : Nat) ^ 6 = 64 from rfl]; omega
  rw [fin t0 t1 t2 t3 c0 c1 c2 c3]
/-- Arrays.fill -/
theorem x_fill {N n : Nat} (hn : n < 1000) (hN : 1100 ≤ N) (f : Nat → Int32) (x : Int32) : ∃ g, f_J7_fill_53178 N n f x = some g ∧ (∀ i, i < n → g i = x) := by
  have main := lp_up (fun n' i (s : Nat → Int32) => lp_J7_fill_53178_5 n x (nI n) n' (nI i) s) n (fun i s => ∀ j, j < i → s j = x) (fun g => ∀ j, j < n → g j = x)
    (fun m s h => ⟨s, by simp only [lp_J7_fill_53178_5]; rw [if_pos (nI_le (Nat.le_refl _) (by omega))], h⟩)
    (fun m i s hi h => Or.inr ⟨upd s i x, fun j hj => by
        by_cases q : j = i
        · subst q; rw [upd_s]
        · rw [upd_n _ _ q]; exact h j (by omega), by
        simp only [lp_J7_fill_53178_5]
        rw [if_neg (nI_ge hi (by omega)), e_wrI _ _ _ hi (by omega), e_nm, nI_1]⟩)
    N 0 f (by omega) (by omega) (fun j hj => by omega)
  obtain ⟨g, h1, h2⟩ := main
  refine ⟨g, ?_, h2⟩
  unfold f_J7_fill_53178
  rw [e_nm, show lp_J7_fill_53178_5 n x (Int32.ofNat n) N 0 f = _ from h1, e_b1, e_u1]
