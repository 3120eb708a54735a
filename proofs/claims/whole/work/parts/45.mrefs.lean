/-! the reference reads a reference -/
theorem i8 {i : Nat} (h : i < 8) : i = 0 ∨ i = 1 ∨ i = 2 ∨ i = 3 ∨ i = 4 ∨ i = 5 ∨ i = 6 ∨ i = 7 := by omega
theorem m_inL (c : Int32) : f_X7_in c.toInt64 65 70 = some (if cv 65 6 c < 6 then 1 else 0) := by
  rw [show (65 : Int64) = (65 : Int32).toInt64 from rfl, show (70 : Int64) = (70 : Int32).toInt64 from rfl, x_in32]
  congr 1
  simp only [i_le, cv_in, show (65 : Int32).toInt = 65 from rfl, show (70 : Int32).toInt = 70 from rfl]
  by_cases q : 65 ≤ c.toInt ∧ c.toInt ≤ 70
  · rw [if_pos q, if_pos (by omega)]
  · rw [if_neg q, if_neg (by omega)]
theorem m_90f {len : Nat} {tx : Nat → Int32} {a k : Nat} {g : Nat → Int32} : j_X7_readReference_90 (nI len) tx (nI a) 0 (nI k) g = some (0, nI k, g) := by
  unfold j_X7_readReference_90
  rw [if_pos rfl, e_bz0]
theorem cv_not {a n c : Nat} {x : Int32} (h : cv a n x < n) (ha : a + n < 2 ^ 31) (hc : c < a ∨ a + n ≤ c) (hc2 : c < 2 ^ 31) : ¬ x = nI c := by
  rw [cv_of h ha, nI_eq (by omega) hc2]
  omega
theorem m_takeY {len : Nat} {tx : Nat → Int32} (h : tOK len tx) {k : Nat} (hk : k ≤ len) {a n lo hi : Nat} (ha : 1 ≤ a ∧ a ≤ 200 ∧ hi < n ∧ n ≤ 100 ∧ lo ≤ 100) (c : lo ≤ cv a n (cu len tx k) ∧ cv a n (cu len tx k) ≤ hi) : f_X7_take (nI len) (nI k) tx (nI a) (nI lo) (nI hi) = some (nI (cv a n (cu len tx k)), nI (k + 1)) := by
  rw [m_take (n := n) h hk ha.1 ha.2.1 ha.2.2.1 ha.2.2.2.1 ha.2.2.2.2, if_pos c]
theorem m_takeN {len : Nat} {tx : Nat → Int32} (h : tOK len tx) {k : Nat} (hk : k ≤ len) {a n lo hi : Nat} (ha : 1 ≤ a ∧ a ≤ 200 ∧ hi < n ∧ n ≤ 100 ∧ lo ≤ 100) (c : ¬ (lo ≤ cv a n (cu len tx k) ∧ cv a n (cu len tx k) ≤ hi)) : f_X7_take (nI len) (nI k) tx (nI a) (nI lo) (nI hi) = some (-9, nI k) := by
  rw [m_take (n := n) h hk ha.1 ha.2.1 ha.2.2.1 ha.2.2.2.1 ha.2.2.2.2, if_neg c]
theorem m_spelled {len : Nat} {tx : Nat → Int32} (h : tOK len tx) {k a x : Nat} (hk : k ≤ len) (ha : a + 8 ≤ 265) (h2 : cv 65 6 (cu len tx k) < 6) {g rp : Nat → Int32} (hg : rec8 g rp a (mk8 0 x 0 0 0 0 0 0)) :
    mA rp a (sc1 len tx (k + 1) x (cv 65 6 (cu len tx k))) (pn_bd3 (pn_bd3 (f_X7_readSpelled (nI len) (nI k) g tx (nI a)) fun ru20 v_t_place_u20 r_t_readPage_u20 => pn_bz ru20 <| some (ru20, v_t_place_u20, r_t_readPage_u20)) fun ru20 v_t_place_u20 r_t_readPage_u20 => j_X7_readReference_90 (nI len) tx (nI a) ru20 v_t_place_u20 r_t_readPage_u20) := by
  have hl := h.1
  have l2 := cu_lt h2
  unfold f_X7_readSpelled
  rw [show f_X7_take (nI len) (nI k) tx 65 0 5 = _ from m_takeY (a := 65) (lo := 0) (hi := 5) (n := 6) h hk (by decide) (by omega), e_b2, show nI a + (2 : Int32) = nI (a + 2) from a_add a 2, e_wrI _ _ _ (by omega) (by omega),
    m_report h (by omega) (lo := 0) (hi := 1) (sr := 2) (Or.inl ⟨rfl, rfl, rfl⟩), e_b2]
  have g2 := rec8_cong (G := mk8 0 x (cv 65 6 (cu len tx k)) 0 0 0 0 0) (rec8_wr (v := cv 65 6 (cu len tx k)) hg (i := 2) (by omega)) (by intro i hi; rcases i8 hi with rfl | rfl | rfl | rfl | rfl | rfl | rfl | rfl <;> rfl)
  generalize upd g (a + 2) (nI (cv 65 6 (cu len tx k))) = g2v at g2 ⊢
  unfold sc1
  have hq := rpS_len (tx := tx) (k := k + 1) (len := len) (lo := 0) (hi := 1) (by omega) (by omega)
  by_cases h4 : (rpS len tx 0 1 (k + 1)).1 = 0
  · rw [if_pos h4, if_pos h4, if_neg (fun z => z rfl), e_b3, e_bz0, e_b3, m_90f]
    exact ⟨g2v, rfl, g2.2, fun z => absurd (show (0 : Nat) = 1 from z) (by decide)⟩
  · have o1 := rpS_ok (by omega) h4
    have b1 := rp_lt o1.1
    rw [if_neg h4, if_neg h4, if_pos (n_m9 (by omega)), show nI a + (3 : Int32) = nI (a + 3) from a_add a 3, e_wrI _ _ _ (by omega) (by omega), m_next h (by omega), e_b1]
    have g3 := rec8_cong (G := mk8 0 x (cv 65 6 (cu len tx k)) (rpS len tx 0 1 (k + 1)).1 0 0 0 0) (rec8_wr (v := (rpS len tx 0 1 (k + 1)).1) g2 (i := 3) (by omega)) (by intro i hi; rcases i8 hi with rfl | rfl | rfl | rfl | rfl | rfl | rfl | rfl <;> rfl)
    generalize upd g2v (a + 3) (nI (rpS len tx 0 1 (k + 1)).1) = g3v at g3 ⊢
    by_cases h5 : cu len tx (rpS len tx 0 1 (k + 1)).2 = 61
    · have l5 := cu_ne (c := 61) (by omega) h5
      rw [if_neg (show ¬ ¬ cu len tx (rpS len tx 0 1 (k + 1)).2 = 61 from fun z => z h5), if_pos h5, e_nm, nI_1]
      have hs : ∃ s : Nat, s ≤ 1 ∧ s = 1 - (rpS len tx 0 1 (k + 1)).1 / 100 % 10 ∧ (1 : Int32) - (nI (rpS len tx 0 1 (k + 1)).1 / 100 - nI (rpS len tx 0 1 (k + 1)).1 / 100 / 10 * 10) = nI s := by
        refine ⟨_, ?_, rfl, ?_⟩
        · omega
        · rw [show (100 : Int32) = nI 100 from rfl, show (10 : Int32) = nI 10 from rfl, pk_div (by omega) (by omega) (by omega), pk_rem (by omega) (by omega) (by omega), show (1 : Int32) = nI 1 from rfl, pk_sub (by omega)]
      obtain ⟨s, hs1, hs2, hs3⟩ := hs
      rw [hs3, ← hs2, m_report h (by omega) (lo := s) (hi := s) (sr := nI s) (by rcases (show s = 0 ∨ s = 1 by omega) with rfl | rfl; exact Or.inr (Or.inl ⟨rfl, rfl, rfl⟩); exact Or.inr (Or.inr ⟨rfl, rfl, rfl⟩)), e_b2, show nI a + (4 : Int32) = nI (a + 4) from a_add a 4, e_wrI _ _ _ (by omega) (by omega)]
      have hq2 := rpS_len (tx := tx) (k := (rpS len tx 0 1 (k + 1)).2 + 1) (len := len) (lo := s) (hi := s) (by omega) (by omega)
      by_cases h6 : (rpS len tx s s ((rpS len tx 0 1 (k + 1)).2 + 1)).1 = 0
      · rw [if_pos h6, if_pos h6, if_pos rfl, e_b3, e_bz0, e_b3, m_90f]
        exact ⟨_, rfl, fr8_wr g3.2 (by omega), fun z => absurd (show (0 : Nat) = 1 from z) (by decide)⟩
      · have o2 := rpS_ok (by omega) h6
        have b2 := rp_lt o2.1
        have g4 := rec8_cong (G := mk8 0 x (cv 65 6 (cu len tx k)) (rpS len tx 0 1 (k + 1)).1 (rpS len tx s s ((rpS len tx 0 1 (k + 1)).2 + 1)).1 0 0 0) (rec8_wr (v := (rpS len tx s s ((rpS len tx 0 1 (k + 1)).2 + 1)).1) g3 (i := 4) (by omega)) (by intro i hi; rcases i8 hi with rfl | rfl | rfl | rfl | rfl | rfl | rfl | rfl <;> rfl)
        rw [if_neg h6, if_neg h6, if_neg (n_m9 (by omega)), e_b3, e_bz1, e_b3]
        exact m_pin h hq2 ha g4
    · rw [if_pos h5, if_neg h5, e_b3, e_bz1, e_b3]
      exact m_pin h hq ha g3
theorem m_ref {len : Nat} {tx : Nat → Int32} (h : tOK len tx) {k a N : Nat} (hk : k ≤ len) (ha : a + 8 ≤ 265) (hN : 10 ≤ N) (rp : Nat → Int32) : mA rp a (rfS len tx k) (f_X7_readReference N (nI len) (nI k) rp tx (nI a)) := by
  have hl := h.1
  obtain ⟨g0, hz, hg0⟩ := m_zero ha rp hN
  unfold f_X7_readReference rfS
  rw [hz, e_b1, e_u1, m_next h (by omega), e_b1]
  by_cases h1 : cv 65 6 (cu len tx k) < 6
  · have l1 := cu_lt h1
    have n105 : ¬ cu len tx k = 105 := cv_not (c := 105) h1 (by decide) (by omega) (by decide)
    have n97 : ¬ cu len tx k = 97 := cv_not (c := 97) h1 (by decide) (by omega) (by decide)
    rw [if_pos n105, e_b1, if_pos n97, if_pos h1]
    unfold f_X7_readName
    rw [show f_X7_take (nI len) (nI k) tx 65 0 5 = _ from m_takeY (a := 65) (lo := 0) (hi := 5) (n := 6) h hk (by decide) (by omega), e_b2, if_pos (n_m9 (by omega)), m_next h (by omega), e_b1, m_inL, e_b1,
      show nI a + (0 : Int32) = nI (a + 0) from a_add a 0, show nI a + (5 : Int32) = nI (a + 5) from a_add a 5, show nI a + (1 : Int32) = nI (a + 1) from a_add a 1]
    simp only [e_wrI (n := 265) (k := a + 0) _ _ _ (by omega) (by omega), e_wrI (n := 265) (k := a + 5) _ _ _ (by omega) (by omega), e_wrI (n := 265) (k := a + 1) _ _ _ (by omega) (by omega)]
    have gS := rec8_cong (G := mk8 1 0 0 0 0 (cv 65 6 (cu len tx k)) 0 0) (rec8_wr (v := cv 65 6 (cu len tx k)) (rec8_wr (v := 1) hg0 (i := 0) (by omega)) (i := 5) (by omega)) (by intro i hi; rcases i8 hi with rfl | rfl | rfl | rfl | rfl | rfl | rfl | rfl <;> rfl)
    by_cases h2 : cv 65 6 (cu len tx (k + 1)) < 6
    · rw [if_pos h2, if_pos h2, if_neg (show ¬ (1 : Int32) = 0 by decide), e_b1]
      by_cases h3 : cv 65 6 (cu len tx (k + 1)) = cv 65 6 (cu len tx k)
      · have e3 : cu len tx (k + 1) = 65 + nI (cv 65 6 (cu len tx k)) := by
          rw [show (65 : Int32) + nI (cv 65 6 (cu len tx k)) = nI (65 + cv 65 6 (cu len tx k)) from a_add 65 _, ← h3]
          exact cv_of h2 (by decide)
        rw [if_pos e3, if_pos h3, e_b3]
        have n64 : ¬ cu len tx (k + 1) = 64 := cv_not (c := 64) h2 (by decide) (by omega) (by decide)
        unfold j_X7_readReference_90
        rw [if_neg (by decide), m_next h (by omega), e_b1, if_pos n64, e_bz1]
        exact ⟨_, rfl, gS.2, fun z => absurd (show (2 : Nat) = 1 from z) (by decide)⟩
      · have e3 : ¬ cu len tx (k + 1) = 65 + nI (cv 65 6 (cu len tx k)) := by
          rw [show (65 : Int32) + nI (cv 65 6 (cu len tx k)) = nI (65 + cv 65 6 (cu len tx k)) from a_add 65 _, cv_of h2 (by decide), nI_eq (by omega) (by omega)]
          omega
        rw [if_neg e3, if_neg h3]
        have g1 := rec8_cong (G := mk8 0 (cv 65 6 (cu len tx k)) 0 0 0 0 0 0) (rec8_wr (v := cv 65 6 (cu len tx k)) (rec8_wr (v := 0) hg0 (i := 0) (by omega)) (i := 1) (by omega)) (by intro i hi; rcases i8 hi with rfl | rfl | rfl | rfl | rfl | rfl | rfl | rfl <;> rfl)
        exact m_spelled h (by omega) ha h2 g1
    · rw [if_neg h2, if_neg h2, if_pos (show (0 : Int32) = 0 from rfl), e_b3]
      exact m_pin h (by omega) ha gS
  · rw [if_neg h1]
    by_cases h2 : cu len tx k = 97
    · have l2 := cu_ne (c := 97) (by omega) h2
      have n105 : ¬ cu len tx k = 105 := by rw [h2]; decide
      rw [if_pos n105, e_b1, if_neg (show ¬ ¬ cu len tx k = 97 from fun z => z h2), if_pos h2, e_nm, nI_1]
      unfold f_X7_readAbove
      rw [show nI a + (0 : Int32) = nI (a + 0) from a_add a 0, show nI a + (5 : Int32) = nI (a + 5) from a_add a 5, show nI a + (6 : Int32) = nI (a + 6) from a_add a 6, e_wrI (n := 265) (k := a + 0) _ _ _ (by omega) (by omega)]
      have hle := cv_le 48 10 (cu len tx (k + 1))
      have hle2 := cv_le 65 6 (cu len tx (k + 2))
      by_cases h3 : cv 48 10 (cu len tx (k + 1)) < 10
      · have l3 := cu_lt h3
        rw [show f_X7_take (nI len) (nI (k + 1)) tx 48 0 9 = _ from m_takeY (a := 48) (lo := 0) (hi := 9) (n := 10) h (by omega) (by decide) (by omega), e_b2, e_wrI (n := 265) (k := a + 6) _ _ _ (by omega) (by omega), if_pos (n_m9 (by omega)), if_pos h3]
        by_cases h4 : cv 65 6 (cu len tx (k + 2)) < 6
        · have l4 := cu_lt h4
          rw [show f_X7_take (nI len) (nI (k + 2)) tx 65 0 5 = _ from m_takeY (a := 65) (lo := 0) (hi := 5) (n := 6) h (by omega) (by decide) (by omega), e_b2, e_wrI (n := 265) (k := a + 5) _ _ _ (by omega) (by omega), if_neg (n_m9 (by omega)), if_pos h4, e_b3]
          have gA := rec8_cong (G := mk8 3 0 0 0 0 (cv 65 6 (cu len tx (k + 2))) (cv 48 10 (cu len tx (k + 1))) 0) (rec8_wr (v := cv 65 6 (cu len tx (k + 2))) (rec8_wr (v := cv 48 10 (cu len tx (k + 1))) (rec8_wr (v := 3) hg0 (i := 0) (by omega)) (i := 6) (by omega)) (i := 5) (by omega)) (by intro i hi; rcases i8 hi with rfl | rfl | rfl | rfl | rfl | rfl | rfl | rfl <;> rfl)
          exact m_pin h (by omega) ha gA
        · rw [show f_X7_take (nI len) (nI (k + 2)) tx 65 0 5 = _ from m_takeN (a := 65) (lo := 0) (hi := 5) (n := 6) h (by omega) (by decide) (by omega), e_b2, e_wrI (n := 265) (k := a + 5) _ _ _ (by omega) (by omega), if_pos rfl, if_neg h4, e_b3, m_90f]
          exact ⟨_, rfl, fr8_wr (fr8_wr (fr8_wr hg0.2 (by omega)) (by omega)) (by omega), fun z => absurd (show (0 : Nat) = 1 from z) (by decide)⟩
      · rw [show f_X7_take (nI len) (nI (k + 1)) tx 48 0 9 = _ from m_takeN (a := 48) (lo := 0) (hi := 9) (n := 10) h (by omega) (by decide) (by omega), e_b2, e_wrI (n := 265) (k := a + 6) _ _ _ (by omega) (by omega), if_neg (show ¬ ¬ (-9 : Int32) = -9 from fun z => z rfl), e_wrI (n := 265) (k := a + 5) _ _ _ (by omega) (by omega), if_pos (show (-9 : Int32) = -9 from rfl), if_neg h3, e_b3, m_90f]
        exact ⟨_, rfl, fr8_wr (fr8_wr (fr8_wr hg0.2 (by omega)) (by omega)) (by omega), fun z => absurd (show (0 : Nat) = 1 from z) (by decide)⟩
    · rw [if_neg h2]
      by_cases h3 : cu len tx k = 105
      · have l3 := cu_ne (c := 105) (by omega) h3
        rw [if_neg (show ¬ ¬ cu len tx k = 105 from fun z => z h3), if_pos h3, e_nm, nI_1, show nI a + (0 : Int32) = nI (a + 0) from a_add a 0, e_wrI (n := 265) (k := a + 0) _ _ _ (by omega) (by omega)]
        have gI := rec8_cong (G := mk8 2 0 0 0 0 0 0 0) (rec8_wr (v := 2) hg0 (i := 0) (by omega)) (by intro i hi; rcases i8 hi with rfl | rfl | rfl | rfl | rfl | rfl | rfl | rfl <;> rfl)
        exact m_pin h (by omega) ha gI
      · rw [if_pos h3, e_b1, if_pos h2, if_neg h3]
        have hle := cv_le 65 6 (cu len tx k)
        unfold f_X7_readName
        rw [show f_X7_take (nI len) (nI k) tx 65 0 5 = _ from m_takeN (a := 65) (lo := 0) (hi := 5) (n := 6) h hk (by decide) (by omega), e_b2, if_neg (fun z => z rfl), e_b3, m_90f]
        exact ⟨_, rfl, hg0.2, fun z => absurd (show (0 : Nat) = 1 from z) (by decide)⟩
