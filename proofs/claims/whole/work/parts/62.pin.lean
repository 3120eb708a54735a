/-! the state of a pin -/
theorem nn_sub {a b : Nat} (h : b ≤ a) : nI a - nI b = nI (a - b) := by
  have e := nI_add (a - b) b
  rw [Nat.sub_add_cancel h] at e
  rw [← e]
  exact Int32.add_sub_cancel _ _
theorem m_deadC {n : Nat} {z : Nat → Nat} {G : Nat → Nat → Nat} {p : Nat → Int32} (ha : aP n z G) (hm : mP n z G p) {N : Nat} (hN : 2000 ≤ N) (c0 l0 : Int32) (cf0 fi0 lb0 rn0 : Nat → Int32) :
    ∃ (c1 l1 : Int32) (cf fi lb rn : Nat → Int32), f_X7_dead N c0 l0 cf0 fi0 lb0 rn0 p = some (nI (fb_ct (fun q => lf n z (full n) q && decide ((TC n z G (full n)).2.1 q = none)) 32), c1, l1, cf, fi, lb, rn) := by
  have hL : full n < 2 ^ 31 := by have := full_lt n; omega
  obtain ⟨c1, l1, cf, fi, lb, rn, a1, a2, a3⟩ := m_findAll ha hm hN c0 l0 cf0 fi0 lb0 rn0
  obtain ⟨t1, t2, t3⟩ := TC_ok ha hL
  refine ⟨c1, l1, cf, fi, lb, rn, ?_⟩
  unfold f_X7_dead
  rw [a1, e_b6, m_all ha hm, e_b1, m_refs ha hm hL hN, e_b1, m_many t3 (fun r hr => (a3 r hr).1) hN, e_b1, ← RS_alive t2, RS_both (F := (TC n z G (full n)).2.1), nn_sub (by omega), Nat.add_sub_cancel_left]
/-- number v begins another case between the first report f and the pin -/
def pin1 (f pn v : Nat) : Bool := decide (v / 100 = f / 100) && (decide (f < v) && decide (v % 100 ≤ pn))
def pin2 (n : Nat) (z : Nat → Nat) (G : Nat → Nat → Nat) (L : Nat) (F : Nat → Option Nat) (c f pn q : Nat) : Bool := sp n z G L (q / 2) && (decide (F (q / 2) ≠ some c) && pin1 f pn (G (q / 2) (3 + q % 2)))
theorem d100 {a : Nat} (h : a < 2 ^ 30) : nI a / 100 = nI (a / 100) := by rw [show (100 : Int32) = nI 100 from rfl, pk_div (by omega) (by omega) (by omega)]
theorem r100 {a : Nat} (h : a < 2 ^ 30) : nI a - nI a / 100 * 100 = nI (a % 100) := by rw [show (100 : Int32) = nI 100 from rfl, pk_rem (by omega) (by omega) (by omega)]
theorem m_past {n : Nat} {z : Nat → Nat} {G : Nat → Nat → Nat} {p : Nat → Int32} (ha : aP n z G) (hm : mP n z G p) {F : Nat → Option Nat} (hF : ∀ q c, F q = some c → c < 32) {fi : Nat → Int32} (hfi : ∀ r, r < 32 → fi r = oI (F r)) {N : Nat} (hN : 2000 ≤ N) {c f pn : Nat} (hc : c < 32) (hf : f < 10000) (hpn : pn < 100) :
    lp_X7_isPast_19 fi p (nI c) (nI pn) (nI f) N 0 0 = some (b1 (decide (0 < fb_ct (pin2 n z G (full n) F c f pn) 64))) := by
  have hL : full n < 2 ^ 31 := by have := full_lt n; omega
  have main := lp_up (fun n' i (s : Int32) => lp_X7_isPast_19 fi p (nI c) (nI pn) (nI f) n' s (nI i)) 64 (fun i s => s = b1 (decide (0 < fb_ct (pin2 n z G (full n) F c f pn) i))) (fun s => s = b1 (decide (0 < fb_ct (pin2 n z G (full n) F c f pn) 64)))
    (fun m s h => ⟨s, by
      simp only [lp_X7_isPast_19]
      rw [if_pos (show (64 : Int32) ≤ nI 64 from by decide)], h⟩)
    (fun m i s hi h => by
      refine Or.inr ⟨b1 (decide (0 < fb_ct (pin2 n z G (full n) F c f pn) (i + 1))), rfl, ?_⟩
      have d2 : nI i / 2 = nI (i / 2) := by rw [show (2 : Int32) = nI 2 from rfl, pk_div (by omega) (by omega) (by omega)]
      have m2 : nI i - nI i / 2 * 2 = nI (i % 2) := by rw [show (2 : Int32) = nI 2 from rfl, pk_rem (by omega) (by omega) (by omega)]
      simp only [lp_X7_isPast_19]
      rw [if_neg (show ¬ (64 : Int32) ≤ nI i from nI_ge (b := 64) hi (by omega)), m2, d2, e_nm, m_all ha hm, e_b1, m_sp ha hm hL (by omega), e_b1, fb_ct_succ]
      cases hs : sp n z G (full n) (i / 2) with
      | false =>
        rw [if_pos (by decide), e_nm, nI_1, h, if_neg (by unfold pin2; simp [hs])]
        rfl
      | true =>
        have hth := lf_th (sp_lf hs)
        have hv := vF_b (th_v ha hth)
        rw [if_neg (by decide), e_rd _ _ (by omega) (by omega), hfi _ (by omega)]
        by_cases q : F (i / 2) = some c
        · rw [if_pos ((oI_c _ (fun d w => by have := hF _ d w; omega) (by omega)).mpr q), e_nm, nI_1, h, if_neg (by unfold pin2; simp [q])]
          rfl
        · rw [if_neg (fun w => q ((oI_c _ (fun d w => by have := hF _ d w; omega) (by omega)).mp w)), show (3 : Int32) = nI 3 from rfl, nI_add, m_refT ha hm hth (by omega), e_b1]
          have hv2 : G (i / 2) (3 + i % 2) < 10000 := vF_lt (th_v ha hth) (by omega)
          have hp : pin2 n z G (full n) F c f pn i = pin1 f pn (G (i / 2) (3 + i % 2)) := by unfold pin2; simp [hs, q]
          rw [hp, h]
          by_cases hk : 0 < fb_ct (pin2 n z G (full n) F c f pn) i
          · rw [show decide (0 < fb_ct (pin2 n z G (full n) F c f pn) i) = true from by simp [hk], if_pos (by decide), e_nm, nI_1, show decide (0 < fb_ct (pin2 n z G (full n) F c f pn) i + (if pin1 f pn (G (i / 2) (3 + i % 2)) = true then 1 else 0)) = true from by simp; omega]
            rfl
          · rw [show decide (0 < fb_ct (pin2 n z G (full n) F c f pn) i) = false from by simp [hk], if_neg (by decide), d100 (by omega), d100 (by omega)]
            have hr : nI (G (i / 2) (3 + i % 2)) - nI (G (i / 2) (3 + i % 2) / 100) * 100 = nI (G (i / 2) (3 + i % 2) % 100) := by rw [← d100 (by omega)]; exact r100 (by omega)
            have hz0 : fb_ct (pin2 n z G (full n) F c f pn) i = 0 := by omega
            rw [hr, hz0]
            generalize G (i / 2) (3 + i % 2) = v at hv2 ⊢
            by_cases w1 : v / 100 = f / 100
            · rw [if_neg (fun w => w (by rw [w1]))]
              by_cases w2 : v ≤ f
              · rw [if_pos (nI_le w2 (by omega)), e_nm, nI_1, if_neg (by unfold pin1; simp; omega)]
                rfl
              · rw [if_neg (nI_ge (by omega) (by omega))]
                by_cases w3 : pn < v % 100
                · rw [if_pos (nI_lt w3 (by omega)), e_nm, nI_1, if_neg (by unfold pin1; simp; omega)]
                  rfl
                · rw [if_neg (nI_nlt (by omega) (by omega)), e_nm, nI_1, if_pos (by unfold pin1; simp; omega)]
                  rfl
            · rw [if_pos (fun w => w1 ((nI_eq (by omega) (by omega)).mp w)), e_nm, nI_1, if_neg (by unfold pin1; simp [w1])]
              rfl)
    N 0 0 (by omega) (by omega) rfl
  obtain ⟨s, a1, a2⟩ := main
  rw [show lp_X7_isPast_19 fi p (nI c) (nI pn) (nI f) N 0 0 = some s from a1, a2]
