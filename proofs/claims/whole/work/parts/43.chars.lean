/-! the text, sign by sign: class and reference read it alike -/
def cu (len : Nat) (tx : Nat → Int32) (k : Nat) : Int32 := if k < len then tx k else -9
def tOK (len : Nat) (tx : Nat → Int32) : Prop := len ≤ 120 ∧ ∀ j, j < len → 0 ≤ (tx j).toInt ∧ (tx j).toInt ≤ 255
/-- which of n signs from a on; n if none -/
def cv (a n : Nat) (c : Int32) : Nat := if (a : Int) ≤ c.toInt ∧ c.toInt < a + n then (c.toInt - a).toNat else n
theorem cv_le (a n : Nat) (c : Int32) : cv a n c ≤ n := by
  unfold cv
  split <;> omega
theorem cv_of {a n : Nat} {c : Int32} (h : cv a n c < n) (ha : a + n < 2 ^ 31) : c = nI (a + cv a n c) := by
  unfold cv at h ⊢
  split at h
  · rename_i q
    rw [if_pos q]
    rw [i_eq, nI_toInt (by omega)]
    omega
  · omega
theorem cv_in {a n : Nat} {c : Int32} : cv a n c < n ↔ (a : Int) ≤ c.toInt ∧ c.toInt < a + n := by
  unfold cv
  constructor
  · intro h
    split at h
    · assumption
    · omega
  · intro h
    rw [if_pos h]
    omega
theorem cv_nI {a n k : Nat} (h1 : a ≤ k) (h2 : k < a + n) (h3 : k < 2 ^ 31) : cv a n (nI k) = k - a := by
  unfold cv
  rw [nI_toInt h3, if_pos (by omega)]
  omega
theorem cv_m9 (a n : Nat) : cv a n (-9) = n := by
  unfold cv
  rw [if_neg]
  have : ((-9 : Int32)).toInt = -9 := by decide
  rw [this]; omega
theorem m9_int : ((-9 : Int32)).toInt = -9 := by decide
theorem cu_in {len : Nat} {tx : Nat → Int32} {k : Nat} (h : k < len) : cu len tx k = tx k := if_pos h
theorem cu_out {len : Nat} {tx : Nat → Int32} {k : Nat} (h : len ≤ k) : cu len tx k = -9 := if_neg (by omega)
theorem cu_rng {len : Nat} {tx : Nat → Int32} (h : tOK len tx) (k : Nat) : -9 ≤ (cu len tx k).toInt ∧ (cu len tx k).toInt ≤ 255 := by
  by_cases q : k < len
  · rw [cu_in q]; have := h.2 k q; omega
  · rw [cu_out (by omega), m9_int]; omega
theorem cu_lt {len : Nat} {tx : Nat → Int32} {k a n : Nat} (h : cv a n (cu len tx k) < n) : k < len := by
  by_cases q : k < len
  · exact q
  · rw [cu_out (by omega), cv_m9] at h; omega
theorem cu_ne {len : Nat} {tx : Nat → Int32} {k c : Nat} (hc : c < 2 ^ 31) (h : cu len tx k = nI c) : k < len := by
  by_cases q : k < len
  · exact q
  · rw [cu_out (by omega), i_eq, nI_toInt hc, m9_int] at h; omega
theorem t_adv {len : Nat} {tx : Nat → Int32} (h : tOK len tx) (k : Nat) (hk : k ≤ 1000) (sg : Int32) : f_X5_advance (nI len) (nI k) sg tx = some (nI (k + 1), cu len tx (k + 1)) := by
  have hl := h.1
  unfold f_X5_advance
  rw [e_nm, nI_1, if_neg (nI_pos (by omega))]
  by_cases q : len ≤ k + 1
  · rw [if_pos (nI_le q (by omega)), cu_out q]
  · rw [if_neg (nI_ge (by omega) (by omega)), show (120 : Int32) = nI 120 from rfl, if_neg (nI_ge (by omega) (by omega)), e_rd _ _ (by omega) (by omega), cu_in (by omega)]
theorem t_adv0 {len : Nat} {tx : Nat → Int32} (h : tOK len tx) (sg : Int32) : f_X5_advance (nI len) (-1) sg tx = some (nI 0, cu len tx 0) := by
  have hl := h.1
  unfold f_X5_advance
  rw [e_nm, show (-1 : Int32) + 1 = nI 0 from by decide, if_neg (nI_pos (by omega))]
  by_cases q : len ≤ 0
  · rw [if_pos (nI_le q (by omega)), cu_out q]
  · rw [if_neg (nI_ge (by omega) (by omega)), show (120 : Int32) = nI 120 from rfl, if_neg (nI_ge (by omega) (by omega)), e_rd _ _ (by omega) (by omega), cu_in (by omega)]
theorem t_dig (c : Int32) : f_X5_isDigit c = some (if cv 48 10 c < 10 then 1 else 0) := by
  unfold f_X5_isDigit
  simp only [i_lt, cv_in, show (48 : Int32).toInt = 48 from rfl, show (57 : Int32).toInt = 57 from rfl]
  by_cases h1 : c.toInt < 48
  · rw [if_pos h1, if_neg (by omega)]
  · rw [if_neg h1]
    by_cases h2 : 57 < c.toInt
    · rw [if_pos h2, if_neg (by omega)]
    · rw [if_neg h2, if_pos (by omega)]
theorem t_let (c : Int32) : f_X5_isLetter c = some (if cv 65 6 c < 6 then 1 else 0) := by
  unfold f_X5_isLetter
  simp only [i_lt, cv_in, show (65 : Int32).toInt = 65 from rfl, show (70 : Int32).toInt = 70 from rfl]
  by_cases h1 : c.toInt < 65
  · rw [if_pos h1, if_neg (by omega)]
  · rw [if_neg h1]
    by_cases h2 : 70 < c.toInt
    · rw [if_pos h2, if_neg (by omega)]
    · rw [if_neg h2, if_pos (by omega)]
theorem m_next {len : Nat} {tx : Nat → Int32} (h : tOK len tx) {k : Nat} (hk : k ≤ 1000) : f_X7_next (nI len) (nI k) tx = some (cu len tx k) := by
  have hl := h.1
  unfold f_X7_next
  by_cases q : len ≤ k
  · rw [if_pos (nI_le q (by omega)), cu_out q]
  · rw [if_neg (nI_ge (by omega) (by omega)), e_rd _ _ (by omega) (by omega), cu_in (by omega)]
theorem i_sub {x y : Int32} (h1 : -2147483648 ≤ x.toInt - y.toInt) (h2 : x.toInt - y.toInt < 2147483648) : (x - y).toInt = x.toInt - y.toInt := by
  rw [Int32.toInt_sub, fb_bmod h1 h2]
theorem m_take {len : Nat} {tx : Nat → Int32} (h : tOK len tx) {k : Nat} (hk : k ≤ len) {a n lo hi : Nat} (ha : 1 ≤ a) (ha2 : a ≤ 200) (hn : hi < n) (hn2 : n ≤ 100) (hlo : lo ≤ 100) :
    f_X7_take (nI len) (nI k) tx (nI a) (nI lo) (nI hi) = some (if lo ≤ cv a n (cu len tx k) ∧ cv a n (cu len tx k) ≤ hi then (nI (cv a n (cu len tx k)), nI (k + 1)) else (-9, nI k)) := by
  have hl := h.1
  unfold f_X7_take
  rw [m_next h (by omega), e_b1, e_nm]
  by_cases q : k = len
  · subst q
    rw [if_pos rfl, cu_out (Nat.le_refl _), cv_m9, if_neg (by omega)]
  · rw [if_neg (fun z => q ((nI_eq (by omega) (by omega)).mp z)), x_in32, e_b1]
    have hr := cu_rng h k
    have hz : (cu len tx k - nI a).toInt = (cu len tx k).toInt - a := by
      rw [i_sub] <;> rw [nI_toInt (by omega)] <;> omega
    by_cases c : lo ≤ cv a n (cu len tx k) ∧ cv a n (cu len tx k) ≤ hi
    · have hlt : cv a n (cu len tx k) < n := by omega
      have hc := cv_of hlt (by omega)
      rw [if_pos c]
      have hv : cu len tx k - nI a = nI (cv a n (cu len tx k)) := by
        rw [hc, pk_sub (by omega), cv_nI (by omega) (by omega) (by omega)]
      rw [hv, if_pos (⟨nI_le c.1 (by omega), nI_le c.2 (by omega)⟩ : nI lo ≤ nI (cv a n (cu len tx k)) ∧ nI (cv a n (cu len tx k)) ≤ nI hi), if_pos (by decide), e_nm, nI_1]
    · have hcond : ¬ (nI lo ≤ cu len tx k - nI a ∧ cu len tx k - nI a ≤ nI hi) := by
        intro z
        apply c
        rw [i_le, i_le, hz, nI_toInt (by omega), nI_toInt (by omega)] at z
        have : cv a n (cu len tx k) = ((cu len tx k).toInt - a).toNat := by
          unfold cv; rw [if_pos (by omega)]
        omega
      rw [if_neg c, if_neg hcond, if_neg (by decide)]
/-! two figures -/
def pgS (len : Nat) (tx : Nat → Int32) (k : Nat) : Nat × Nat :=
  if cv 48 10 (cu len tx k) < 10 then
    if cv 48 10 (cu len tx (k + 1)) < 10 ∧ ¬ (cv 48 10 (cu len tx k) = 0 ∧ cv 48 10 (cu len tx (k + 1)) = 0) then (10 * cv 48 10 (cu len tx k) + cv 48 10 (cu len tx (k + 1)), k + 2) else (0, k + 1)
  else (0, k)
theorem pgS_rng (len : Nat) (tx : Nat → Int32) (k : Nat) : (pgS len tx k).1 < 100 ∧ k ≤ (pgS len tx k).2 ∧ (pgS len tx k).2 ≤ k + 2 := by
  unfold pgS
  split
  · split <;> simp only <;> omega
  · simp only; omega
theorem pgS_len {len : Nat} {tx : Nat → Int32} {k : Nat} (h : k ≤ len) : (pgS len tx k).2 ≤ len := by
  unfold pgS
  split
  · rename_i h1
    have a1 := cu_lt h1
    split
    · rename_i h2
      have a2 := cu_lt h2.1
      simp only; omega
    · simp only; omega
  · exact h
theorem t_page {len : Nat} {tx : Nat → Int32} (h : tOK len tx) (k : Nat) (hk : k ≤ 900) : f_X5_readPage (nI len) (nI k) (cu len tx k) tx = some ((if (pgS len tx k).1 = 0 then -1 else nI (pgS len tx k).1), nI (pgS len tx k).2, cu len tx (pgS len tx k).2) := by
  unfold f_X5_readPage pgS
  rw [t_dig, e_b1]
  by_cases h1 : cv 48 10 (cu len tx k) < 10
  · have c1 := cv_of h1 (by omega)
    have hz : (10 : Int32) * (cu len tx k - 48) = nI (10 * cv 48 10 (cu len tx k)) := by
      rw [show (10 : Int32) = nI 10 from rfl, show (48 : Int32) = nI 48 from rfl, ← pk_mul]
      congr 1
      rw [c1, pk_sub (by omega), cv_nI (by omega) (by omega) (by omega)]
    simp only [if_pos h1, show ¬ (1 : Int32) = 0 by decide, not_false_eq_true, if_true, e_nm, t_adv h k (by omega), e_b2, t_dig, e_b1, hz]
    by_cases h2 : cv 48 10 (cu len tx (k + 1)) < 10
    · have c2 := cv_of h2 (by omega)
      simp only [h2, if_true, show ¬ (1 : Int32) = 0 by decide, if_false, true_and]
      have hj : j_X5_readPage_52 (nI len) tx (nI (10 * cv 48 10 (cu len tx k))) (nI (k + 1)) (cu len tx (k + 1)) = some (nI (10 * cv 48 10 (cu len tx k) + cv 48 10 (cu len tx (k + 1))), nI (k + 2), cu len tx (k + 2)) := by
        unfold j_X5_readPage_52
        rw [e_nm, t_adv h (k + 1) (by omega), e_b2]
        congr 2
        rw [c2, show (48 : Int32) = nI 48 from rfl, nI_add, pk_sub (by omega), cv_nI (by omega) (by omega) (by omega)]
        congr 1; omega
      by_cases h3 : cv 48 10 (cu len tx k) = 0
      · have e3 : nI (10 * cv 48 10 (cu len tx k)) = 0 := by rw [h3]; rfl
        simp only [e3, not_true_eq_false, if_false]
        by_cases h4 : cv 48 10 (cu len tx (k + 1)) = 0
        · have e4 : cu len tx (k + 1) = 48 := by rw [c2, h4]; rfl
          rw [if_neg (show ¬ ¬ cu len tx (k + 1) = 48 from fun z => z e4)]
          simp only [h3, h4, and_self, not_true_eq_false, if_false, if_true]
        · have e4 : ¬ cu len tx (k + 1) = 48 := by
            rw [c2, show (48 : Int32) = nI 48 from rfl, nI_eq (by omega) (by omega)]; omega
          rw [e3] at hj
          simp only [h3, h4, e4, not_false_eq_true, if_true, and_false, hj]
          rw [if_neg (by omega)]
      · have e3 : ¬ nI (10 * cv 48 10 (cu len tx k)) = 0 := nI_ne0 (by omega) (by omega)
        simp only [e3, h3, not_false_eq_true, if_true, false_and, hj]
        rw [if_neg (by omega)]
    · simp only [h2, if_false, if_true, false_and]
  · simp only [if_neg h1, not_true_eq_false, if_false, if_true]
theorem pg_0 {len : Nat} {tx : Nat → Int32} {k : Nat} (h : ¬ cv 48 10 (cu len tx k) < 10) : pgS len tx k = (0, k) := if_neg h
theorem pg_1 {len : Nat} {tx : Nat → Int32} {k : Nat} (h : cv 48 10 (cu len tx k) < 10) (h2 : ¬ (cv 48 10 (cu len tx (k + 1)) < 10 ∧ ¬ (cv 48 10 (cu len tx k) = 0 ∧ cv 48 10 (cu len tx (k + 1)) = 0))) : pgS len tx k = (0, k + 1) := by
  unfold pgS; rw [if_pos h, if_neg h2]
theorem pg_2 {len : Nat} {tx : Nat → Int32} {k : Nat} (h : cv 48 10 (cu len tx k) < 10) (h2 : cv 48 10 (cu len tx (k + 1)) < 10 ∧ ¬ (cv 48 10 (cu len tx k) = 0 ∧ cv 48 10 (cu len tx (k + 1)) = 0)) : pgS len tx k = (10 * cv 48 10 (cu len tx k) + cv 48 10 (cu len tx (k + 1)), k + 2) := by
  unfold pgS; rw [if_pos h, if_pos h2]
theorem n_m9 {x : Nat} (hx : x < 2 ^ 31) : ¬ nI x = (-9 : Int32) := fun z => by rw [i_eq, nI_toInt hx, m9_int] at z; omega
theorem m_page {len : Nat} {tx : Nat → Int32} (h : tOK len tx) {k : Nat} (hk : k ≤ len) : f_X7_takePage (nI len) (nI k) tx = some ((if (pgS len tx k).1 = 0 then -9 else nI (pgS len tx k).1), nI (pgS len tx k).2) := by
  have hl := h.1
  unfold f_X7_takePage
  rw [show f_X7_take (nI len) (nI k) tx 48 0 9 = _ from m_take (a := 48) (lo := 0) (hi := 9) (n := 10) h hk (by omega) (by omega) (by omega) (by omega) (by omega)]
  by_cases h1 : cv 48 10 (cu len tx k) < 10
  · have l1 := cu_lt h1
    rw [if_pos ⟨by omega, by omega⟩, e_b2, if_pos (n_m9 (by omega))]
    have hj : ∀ b, b ≤ 1 → j_X7_takePage_31 (nI len) tx (nI (cv 48 10 (cu len tx k))) 48 (nI b) (nI (k + 1)) = some (if b ≤ cv 48 10 (cu len tx (k + 1)) ∧ cv 48 10 (cu len tx (k + 1)) ≤ 9 then (nI (10 * cv 48 10 (cu len tx k) + cv 48 10 (cu len tx (k + 1))), nI (k + 2)) else (-9, nI (k + 1))) := by
      intro b hb
      unfold j_X7_takePage_31
      rw [show f_X7_take (nI len) (nI (k + 1)) tx 48 (nI b) 9 = _ from m_take (a := 48) (lo := b) (hi := 9) (n := 10) h (by omega) (by omega) (by omega) (by omega) (by omega) (by omega)]
      by_cases h2 : b ≤ cv 48 10 (cu len tx (k + 1)) ∧ cv 48 10 (cu len tx (k + 1)) ≤ 9
      · rw [if_pos h2, if_pos h2, e_b2, if_pos (n_m9 (by omega)), show (10 : Int32) = nI 10 from rfl, pk_mul, nI_add]
      · rw [if_neg h2, if_neg h2, e_b2, if_neg (fun z => z rfl)]
    by_cases h3 : cv 48 10 (cu len tx k) = 0
    · have e3 : ¬ ¬ nI (cv 48 10 (cu len tx k)) = 0 := by rw [h3]; decide
      rw [if_neg e3, show j_X7_takePage_31 (nI len) tx (nI (cv 48 10 (cu len tx k))) 48 1 (nI (k + 1)) = _ from hj 1 (by omega)]
      by_cases h4 : 1 ≤ cv 48 10 (cu len tx (k + 1)) ∧ cv 48 10 (cu len tx (k + 1)) ≤ 9
      · rw [if_pos h4, pg_2 h1 ⟨by omega, by omega⟩]
        simp only
        rw [if_neg (by omega)]
      · rw [if_neg h4, pg_1 h1 (by omega)]; rfl
    · have e3 : ¬ nI (cv 48 10 (cu len tx k)) = 0 := nI_ne0 (by omega) (by omega)
      rw [if_pos e3, show j_X7_takePage_31 (nI len) tx (nI (cv 48 10 (cu len tx k))) 48 0 (nI (k + 1)) = _ from hj 0 (by omega)]
      by_cases h4 : 0 ≤ cv 48 10 (cu len tx (k + 1)) ∧ cv 48 10 (cu len tx (k + 1)) ≤ 9
      · rw [if_pos h4, pg_2 h1 ⟨by omega, by omega⟩]
        simp only
        rw [if_neg (by omega)]
      · rw [if_neg h4, pg_1 h1 (by omega)]; rfl
  · rw [if_neg (by omega), pg_0 h1, e_b2, if_neg (fun z => z rfl)]; rfl
/-! a report; of the series lo to hi -/
def rpS (len : Nat) (tx : Nat → Int32) (lo hi k : Nat) : Nat × Nat :=
  if 1 ≤ cv 48 10 (cu len tx k) ∧ cv 48 10 (cu len tx k) ≤ 9 then
    if lo ≤ cv 114 2 (cu len tx (k + 1)) ∧ cv 114 2 (cu len tx (k + 1)) ≤ hi then (if (pgS len tx (k + 2)).1 = 0 then 0 else 1000 * cv 48 10 (cu len tx k) + 100 * cv 114 2 (cu len tx (k + 1)) + (pgS len tx (k + 2)).1, (pgS len tx (k + 2)).2) else (0, k + 1)
  else (0, k)
def rpOK (r : Nat) : Prop := 1 ≤ r / 1000 ∧ r / 1000 ≤ 9 ∧ r / 100 % 10 ≤ 1 ∧ 1 ≤ r % 100
theorem rp_0 {len : Nat} {tx : Nat → Int32} {lo hi k : Nat} (h : ¬ (1 ≤ cv 48 10 (cu len tx k) ∧ cv 48 10 (cu len tx k) ≤ 9)) : rpS len tx lo hi k = (0, k) := if_neg h
theorem rp_1 {len : Nat} {tx : Nat → Int32} {lo hi k : Nat} (h : 1 ≤ cv 48 10 (cu len tx k) ∧ cv 48 10 (cu len tx k) ≤ 9) (h2 : ¬ (lo ≤ cv 114 2 (cu len tx (k + 1)) ∧ cv 114 2 (cu len tx (k + 1)) ≤ hi)) : rpS len tx lo hi k = (0, k + 1) := by
  unfold rpS; rw [if_pos h, if_neg h2]
theorem rp_2 {len : Nat} {tx : Nat → Int32} {lo hi k : Nat} (h : 1 ≤ cv 48 10 (cu len tx k) ∧ cv 48 10 (cu len tx k) ≤ 9) (h2 : lo ≤ cv 114 2 (cu len tx (k + 1)) ∧ cv 114 2 (cu len tx (k + 1)) ≤ hi) : rpS len tx lo hi k = (if (pgS len tx (k + 2)).1 = 0 then 0 else 1000 * cv 48 10 (cu len tx k) + 100 * cv 114 2 (cu len tx (k + 1)) + (pgS len tx (k + 2)).1, (pgS len tx (k + 2)).2) := by
  unfold rpS; rw [if_pos h, if_pos h2]
theorem rpS_ok {len : Nat} {tx : Nat → Int32} {lo hi k : Nat} (hh : hi ≤ 1) (h : ¬ (rpS len tx lo hi k).1 = 0) : rpOK (rpS len tx lo hi k).1 ∧ lo ≤ (rpS len tx lo hi k).1 / 100 % 10 ∧ (rpS len tx lo hi k).1 / 100 % 10 ≤ hi := by
  by_cases h1 : 1 ≤ cv 48 10 (cu len tx k) ∧ cv 48 10 (cu len tx k) ≤ 9
  · by_cases h2 : lo ≤ cv 114 2 (cu len tx (k + 1)) ∧ cv 114 2 (cu len tx (k + 1)) ≤ hi
    · rw [rp_2 h1 h2] at h ⊢
      simp only at h ⊢
      have := pgS_rng len tx (k + 2)
      by_cases h3 : (pgS len tx (k + 2)).1 = 0
      · rw [if_pos h3] at h; exact absurd rfl h
      · rw [if_neg h3]
        unfold rpOK
        omega
    · rw [rp_1 h1 h2] at h; exact absurd rfl h
  · rw [rp_0 h1] at h; exact absurd rfl h
theorem rpS_rng (len : Nat) (tx : Nat → Int32) (lo hi k : Nat) : k ≤ (rpS len tx lo hi k).2 ∧ (rpS len tx lo hi k).2 ≤ k + 4 := by
  have := pgS_rng len tx (k + 2)
  unfold rpS
  split
  · split <;> simp only <;> omega
  · simp only; omega
theorem rpS_len {len : Nat} {tx : Nat → Int32} {lo hi k : Nat} (h : k ≤ len) (hh : hi ≤ 1) : (rpS len tx lo hi k).2 ≤ len := by
  unfold rpS
  split
  · rename_i h1
    have a1 : k < len := cu_lt (tx := tx) (a := 48) (n := 10) (by omega)
    split
    · rename_i h2
      have a2 : k + 1 < len := cu_lt (tx := tx) (a := 114) (n := 2) (by omega)
      exact pgS_len (by omega)
    · simp only; omega
  · exact h
theorem t_report {len : Nat} {tx : Nat → Int32} (h : tOK len tx) (k : Nat) (hk : k ≤ 800) {lo hi : Nat} (hc : (lo = 0 ∧ hi = 1) ∨ (lo = 0 ∧ hi = 0) ∨ (lo = 1 ∧ hi = 1)) : f_X5_readReport (nI len) (nI k) (cu len tx k) tx (nI (114 + lo)) (nI (114 + hi)) = some ((if (rpS len tx lo hi k).1 = 0 then -1 else nI (rpS len tx lo hi k).1), nI (rpS len tx lo hi k).2, cu len tx (rpS len tx lo hi k).2) := by
  unfold f_X5_readReport
  rw [t_dig, e_b1]
  have hle := cv_le 48 10 (cu len tx k)
  by_cases h1 : cv 48 10 (cu len tx k) < 10
  · have c1 := cv_of h1 (by omega)
    rw [if_pos h1, if_neg (by decide)]
    by_cases h0 : cv 48 10 (cu len tx k) = 0
    · have e0 : cu len tx k = 48 := by rw [c1, h0]; rfl
      rw [if_neg (fun z => z e0), rp_0 (by omega)]; rfl
    · have e0 : ¬ cu len tx k = 48 := by
        rw [c1, show (48 : Int32) = nI 48 from rfl, nI_eq (by omega) (by omega)]; omega
      have hz : cu len tx k - 48 = nI (cv 48 10 (cu len tx k)) := by
        rw [show (48 : Int32) = nI 48 from rfl]
        conv => lhs; rw [c1]
        rw [pk_sub (by omega)]; congr 1; omega
      rw [if_pos e0, e_nm, t_adv h k (by omega), e_b2, hz]
      have hpr := pgS_rng len tx (k + 2)
      have hj : ∀ sr : Nat, sr ≤ 1 → j_X5_readReport_67 (nI len) tx (nI (cv 48 10 (cu len tx k))) (nI sr) (nI (k + 1)) (cu len tx (k + 1)) = some ((if (if (pgS len tx (k + 2)).1 = 0 then 0 else 1000 * cv 48 10 (cu len tx k) + 100 * sr + (pgS len tx (k + 2)).1) = 0 then -1 else nI (if (pgS len tx (k + 2)).1 = 0 then 0 else 1000 * cv 48 10 (cu len tx k) + 100 * sr + (pgS len tx (k + 2)).1)), nI (pgS len tx (k + 2)).2, cu len tx (pgS len tx (k + 2)).2) := by
        intro sr hsr
        unfold j_X5_readReport_67
        rw [t_adv h (k + 1) (by omega), e_b2, t_page h (k + 2) (by omega), e_b3]
        by_cases h5 : (pgS len tx (k + 2)).1 = 0
        · rw [if_pos h5, if_pos h5, if_neg (by decide), if_pos rfl]
        · rw [if_neg h5, if_neg h5, if_pos (nI_pos' (by omega)), if_neg (by omega), show (1000 : Int32) = nI 1000 from rfl, show (100 : Int32) = nI 100 from rfl, pk_mul, pk_mul, nI_add, nI_add]
      have hle2 := cv_le 114 2 (cu len tx (k + 1))
      by_cases h6 : cv 114 2 (cu len tx (k + 1)) < 2
      · have c6 := cv_of h6 (by omega)
        rcases (show cv 114 2 (cu len tx (k + 1)) = 0 ∨ cv 114 2 (cu len tx (k + 1)) = 1 by omega) with h7 | h7
        · have e7 : cu len tx (k + 1) = nI 114 := by rw [c6, h7]
          have n7 : ¬ cu len tx (k + 1) = 115 := by rw [e7]; decide
          rw [if_pos n7, show (0 : Int32) = nI 0 from rfl, hj 0 (by omega)]
          rcases hc with ⟨rfl, rfl⟩ | ⟨rfl, rfl⟩ | ⟨rfl, rfl⟩
          · rw [if_pos e7, rp_2 (by omega) (by omega), h7]
          · rw [if_pos e7, rp_2 (by omega) (by omega), h7]
          · rw [if_neg (by rw [e7]; decide), if_neg (by rw [e7]; decide), rp_1 (by omega) (by omega)]; rfl
        · have e7 : cu len tx (k + 1) = nI 115 := by rw [c6, h7]
          have n7 : cu len tx (k + 1) = 115 := by rw [e7]; rfl
          rw [if_neg (fun z => z n7), show j_X5_readReport_67 (nI len) tx (nI (cv 48 10 (cu len tx k))) 1 (nI (k + 1)) (cu len tx (k + 1)) = _ from hj 1 (by omega)]
          rcases hc with ⟨rfl, rfl⟩ | ⟨rfl, rfl⟩ | ⟨rfl, rfl⟩
          · rw [if_neg (by rw [e7]; decide), if_pos e7, rp_2 (by omega) (by omega), h7]
          · rw [if_neg (by rw [e7]; decide), if_neg (by rw [e7]; decide), rp_1 (by omega) (by omega)]; rfl
          · rw [if_pos e7, rp_2 (by omega) (by omega), h7]
      · have nz : ∀ z : Nat, z ≤ 1 → ¬ cu len tx (k + 1) = nI (114 + z) := by
          intro z hz q
          rw [q, cv_nI (by omega) (by omega) (by omega)] at h6
          omega
        have n7 : ¬ cu len tx (k + 1) = 115 := nz 1 (by omega)
        rw [if_pos n7, if_neg (nz lo (by omega)), if_neg (nz hi (by omega)), rp_1 (by omega) (by omega)]; rfl
  · rw [if_neg h1, if_pos rfl, rp_0 (by omega)]; rfl
theorem m_report {len : Nat} {tx : Nat → Int32} (h : tOK len tx) {k : Nat} (hk : k ≤ len) {lo hi : Nat} {sr : Int32} (hc : (lo = 0 ∧ hi = 1 ∧ sr = 2) ∨ (lo = 0 ∧ hi = 0 ∧ sr = 0) ∨ (lo = 1 ∧ hi = 1 ∧ sr = 1)) : f_X7_takeReport (nI len) (nI k) tx sr = some ((if (rpS len tx lo hi k).1 = 0 then -9 else nI (rpS len tx lo hi k).1), nI (rpS len tx lo hi k).2) := by
  have hl := h.1
  unfold f_X7_takeReport
  rw [show f_X7_take (nI len) (nI k) tx 48 1 9 = _ from m_take (a := 48) (lo := 1) (hi := 9) (n := 10) h hk (by omega) (by omega) (by omega) (by omega) (by omega)]
  by_cases h1 : 1 ≤ cv 48 10 (cu len tx k) ∧ cv 48 10 (cu len tx k) ≤ 9
  · have l1 : k < len := cu_lt (tx := tx) (a := 48) (n := 10) (by omega)
    rw [if_pos h1, e_b2, if_pos (n_m9 (by omega))]
    have hj : ∀ s1 : Nat, s1 ≤ 1 → k + 2 ≤ len → j_X7_takeReport_43 (nI len) tx (nI (cv 48 10 (cu len tx k))) (nI s1) (nI (k + 2)) = some ((if (if (pgS len tx (k + 2)).1 = 0 then 0 else 1000 * cv 48 10 (cu len tx k) + 100 * s1 + (pgS len tx (k + 2)).1) = 0 then -9 else nI (if (pgS len tx (k + 2)).1 = 0 then 0 else 1000 * cv 48 10 (cu len tx k) + 100 * s1 + (pgS len tx (k + 2)).1)), nI (pgS len tx (k + 2)).2) := by
      intro s1 hs1 hk2
      unfold j_X7_takeReport_43
      have hpr := pgS_rng len tx (k + 2)
      rw [if_pos (n_m9 (by omega)), m_page h hk2, e_b2]
      by_cases h5 : (pgS len tx (k + 2)).1 = 0
      · rw [if_pos h5, if_pos h5, if_neg (fun z => z rfl), if_pos rfl]
      · rw [if_neg h5, if_neg h5, if_pos (n_m9 (by omega)), if_neg (by omega), show (1000 : Int32) = nI 1000 from rfl, show (100 : Int32) = nI 100 from rfl, pk_mul, pk_mul, nI_add, nI_add]
    have key : ∀ a b : Nat, a ≤ b → b ≤ 1 → pn_bd2 (f_X7_take (nI len) (nI (k + 1)) tx 114 (nI a) (nI b)) (fun ru7 v_t_place_u7 => j_X7_takeReport_43 (nI len) tx (nI (cv 48 10 (cu len tx k))) ru7 v_t_place_u7) = some ((if (rpS len tx a b k).1 = 0 then -9 else nI (rpS len tx a b k).1), nI (rpS len tx a b k).2) := by
      intro a b hab hb
      rw [show f_X7_take (nI len) (nI (k + 1)) tx 114 (nI a) (nI b) = _ from m_take (a := 114) (lo := a) (hi := b) (n := 2) h (by omega) (by omega) (by omega) (by omega) (by omega) (by omega)]
      by_cases h2 : a ≤ cv 114 2 (cu len tx (k + 1)) ∧ cv 114 2 (cu len tx (k + 1)) ≤ b
      · have l2 : k + 1 < len := cu_lt (tx := tx) (a := 114) (n := 2) (by omega)
        rw [if_pos h2, e_b2, hj _ (by omega) (by omega), rp_2 h1 h2]
      · rw [if_neg h2, e_b2, rp_1 h1 h2]
        unfold j_X7_takeReport_43
        rw [if_neg (fun z => z rfl)]; rfl
    rcases hc with ⟨rfl, rfl, rfl⟩ | ⟨rfl, rfl, rfl⟩ | ⟨rfl, rfl, rfl⟩
    · rw [if_neg (fun z => z rfl)]
      exact key 0 1 (by omega) (by omega)
    · rw [if_pos (by decide)]
      exact key 0 0 (by omega) (by omega)
    · rw [if_pos (by decide)]
      exact key 1 1 (by omega) (by omega)
  · rw [if_neg h1, e_b2, if_neg (fun z => z rfl), rp_0 h1]; rfl
