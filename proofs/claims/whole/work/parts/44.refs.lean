/-! a reference: eight numbers (kind, one, two, first, second, letter, figure, pin), as the reference keeps them, and packed as the class does -/
def mk8 (a b c d e f g h : Nat) : Nat → Nat := fun i => match i with
  | 0 => a
  | 1 => b
  | 2 => c
  | 3 => d
  | 4 => e
  | 5 => f
  | 6 => g
  | _ => h
def en (F : Nat → Nat) : Nat := ce (F 0) (F 1 + F 5) (F 2) (F 3) (F 4) (F 7) (F 6)
def wp (F : Nat → Nat) (v : Nat) : Nat → Nat := fun i => if i = 7 then v else F i
def vF (F : Nat → Nat) : Prop := F 7 < 100 ∧ ((F 0 = 0 ∧ F 1 < 6 ∧ F 2 < 6 ∧ rpOK (F 3) ∧ (F 4 = 0 ∨ (rpOK (F 4) ∧ F 4 / 100 % 10 ≠ F 3 / 100 % 10)) ∧ F 5 = 0 ∧ F 6 = 0) ∨ (F 0 = 1 ∧ F 1 = 0 ∧ F 2 = 0 ∧ F 3 = 0 ∧ F 4 = 0 ∧ F 5 < 6 ∧ F 6 = 0) ∨
  (F 0 = 2 ∧ F 1 = 0 ∧ F 2 = 0 ∧ F 3 = 0 ∧ F 4 = 0 ∧ F 5 = 0 ∧ F 6 = 0) ∨ (F 0 = 3 ∧ F 1 = 0 ∧ F 2 = 0 ∧ F 3 = 0 ∧ F 4 = 0 ∧ F 5 < 6 ∧ F 6 < 10))
theorem vF_b {F : Nat → Nat} (h : vF F) : F 0 < 4 ∧ F 1 + F 5 < 6 ∧ F 2 < 6 ∧ F 3 < 10000 ∧ F 4 < 10000 ∧ F 7 < 100 ∧ F 6 < 10 := by
  unfold vF rpOK at h
  omega
theorem en_lt {F : Nat → Nat} (h : vF F) : en F < 2 ^ 47 := by
  have := vF_b h
  unfold en ce
  omega
theorem en_get {F : Nat → Nat} (h : vF F) : en F % 4 = F 0 ∧ en F / 4 % 8 = F 1 + F 5 ∧ en F / 32 % 8 = F 2 ∧ en F / 256 % 16384 = F 3 ∧ en F / 4194304 % 16384 = F 4 ∧ en F / 68719476736 % 128 = F 7 ∧ en F / 8796093022208 % 16 = F 6 := by
  have := vF_b h
  unfold en ce
  omega
theorem c_form {F : Nat → Nat} (h : vF F) : f_X0_form (lN (en F)) = some (nI (F 0)) := by rw [x_form, (en_get h).1]
theorem c_first {F : Nat → Nat} (h : vF F) : f_X0_first (lN (en F)) = some (nI (F 1 + F 5)) := by
  have := en_lt h
  rw [x_first (by omega), (en_get h).2.1]
theorem c_second {F : Nat → Nat} (h : vF F) : f_X0_second (lN (en F)) = some (nI (F 2)) := by
  have := en_lt h
  rw [x_second (by omega), (en_get h).2.2.1]
theorem c_report {F : Nat → Nat} (h : vF F) : f_X0_report (lN (en F)) = some (nI (F 3)) := by
  have := en_lt h
  rw [x_report (by omega), (en_get h).2.2.2.1]
theorem c_other {F : Nat → Nat} (h : vF F) : f_X0_other (lN (en F)) = some (nI (F 4)) := by
  have := en_lt h
  rw [x_other (by omega), (en_get h).2.2.2.2.1]
theorem c_pin {F : Nat → Nat} (h : vF F) : f_X0_pin (lN (en F)) = some (nI (F 7)) := by
  have := en_lt h
  rw [x_pin (by omega), (en_get h).2.2.2.2.2.1]
theorem c_number {F : Nat → Nat} (h : vF F) : f_X0_number (lN (en F)) = some (nI (F 6)) := by
  have := en_lt h
  rw [x_number (by omega), (en_get h).2.2.2.2.2.2]
theorem c_withPin {F : Nat → Nat} (h : vF F) {v : Nat} (hv : v < 128) : f_X0_withPin (lN (en F)) (nI v) = some (lN (en (wp F v))) := by
  have h1 := en_lt h
  have h2 := vF_b h
  rw [x_withPin (by omega) hv]
  congr 2
  unfold en ce wp
  simp only [show ¬ (0 : Nat) = 7 by decide, show ¬ (1 : Nat) = 7 by decide, show ¬ (2 : Nat) = 7 by decide, show ¬ (3 : Nat) = 7 by decide, show ¬ (4 : Nat) = 7 by decide, show ¬ (5 : Nat) = 7 by decide, show ¬ (6 : Nat) = 7 by decide, if_false, if_true]
  omega
theorem wp_v {F : Nat → Nat} (h : vF F) {v : Nat} (hv : v < 100) : vF (wp F v) := by
  unfold vF wp at *
  simp only [show ¬ (0 : Nat) = 7 by decide, show ¬ (1 : Nat) = 7 by decide, show ¬ (2 : Nat) = 7 by decide, show ¬ (3 : Nat) = 7 by decide, show ¬ (4 : Nat) = 7 by decide, show ¬ (5 : Nat) = 7 by decide, show ¬ (6 : Nat) = 7 by decide, if_false, if_true] at *
  exact ⟨hv, h.2⟩
theorem en_ne {F : Nat → Nat} (h : vF F) : ¬ lN (en F) = (-1 : Int64) := by
  have := en_lt h
  intro z
  rw [fa_eq64, pf_lI (by omega)] at z
  have e : ((-1 : Int64)).toInt = -1 := by decide
  rw [e] at z
  omega
/-- a record at a place of a row of ints, the rest as before -/
def rec8 (g rp : Nat → Int32) (a : Nat) (F : Nat → Nat) : Prop := (∀ i, i < 8 → g (a + i) = nI (F i)) ∧ ∀ j, (j < a ∨ a + 8 ≤ j) → g j = rp j
theorem rec8_wr {g rp : Nat → Int32} {a i v : Nat} {F : Nat → Nat} (h : rec8 g rp a F) (hi : i < 8) : rec8 (upd g (a + i) (nI v)) rp a (fun j => if j = i then v else F j) := by
  refine ⟨fun j hj => ?_, fun j hj => ?_⟩
  · unfold upd
    by_cases q : j = i
    · subst q; simp
    · rw [if_neg (by omega), h.1 j hj]; simp [q]
  · unfold upd
    rw [if_neg (by omega)]
    exact h.2 j hj
theorem rec8_cong {g rp : Nat → Int32} {a : Nat} {F G : Nat → Nat} (h : rec8 g rp a F) (e : ∀ i, i < 8 → F i = G i) : rec8 g rp a G := ⟨fun i hi => by rw [h.1 i hi, e i hi], h.2⟩
def fr8 (g rp : Nat → Int32) (a : Nat) : Prop := ∀ j, (j < a ∨ a + 8 ≤ j) → g j = rp j
theorem fr8_wr {g rp : Nat → Int32} {a i : Nat} {x : Int32} (h : fr8 g rp a) (hi : i < 8) : fr8 (upd g (a + i) x) rp a := fun j hj => by
  unfold upd
  rw [if_neg (by omega)]
  exact h j hj
theorem a_add (a i : Nat) : nI a + nI i = nI (a + i) := nI_add a i
theorem m_zero {a : Nat} (ha : a + 8 ≤ 265) (rp : Nat → Int32) {N : Nat} (hN : 10 ≤ N) : ∃ g, lp_X7_readReference_2 (nI a) N 0 rp = some g ∧ rec8 g rp a (fun _ => 0) := by
  have := lp_up (fun n i (s : Nat → Int32) => lp_X7_readReference_2 (nI a) n (nI i) s) 8 (fun i s => (∀ j, j < i → s (a + j) = nI 0) ∧ fr8 s rp a) (fun g => rec8 g rp a (fun _ => 0))
    (fun n s h => ⟨s, by simp only [lp_X7_readReference_2]; rw [if_pos (by decide)], h.1, h.2⟩)
    (fun n i s hi h => Or.inr ⟨upd s (a + i) 0, ⟨fun j hj => by
        unfold upd
        by_cases q : j = i
        · subst q; simp; rfl
        · rw [if_neg (by omega)]; exact h.1 j (by omega), fr8_wr h.2 hi⟩, by
        simp only [lp_X7_readReference_2]
        rw [show (8 : Int32) = nI 8 from rfl, if_neg (nI_ge hi (by omega)), a_add, e_wrI _ _ _ (by omega) (by omega), e_nm, nI_1]⟩)
    N 0 rp (by omega) (by omega) ⟨fun j hj => by omega, fun j _ => rfl⟩
  exact this
/-- what a reading of a reference comes to: 0 wrong, 1 right, 2 a letter twice (the class ends there, the reference ends behind it); the numbers; the place -/
def pnS (len : Nat) (tx : Nat → Int32) (F : Nat → Nat) (k : Nat) : Nat × (Nat → Nat) × Nat :=
  if cu len tx k = 64 then (if (pgS len tx (k + 1)).1 = 0 then (0, F, (pgS len tx (k + 1)).2) else (1, wp F (pgS len tx (k + 1)).1, (pgS len tx (k + 1)).2)) else (1, F, k)
def sc1 (len : Nat) (tx : Nat → Int32) (k x y : Nat) : Nat × (Nat → Nat) × Nat :=
  if (rpS len tx 0 1 k).1 = 0 then (0, fun _ => 0, (rpS len tx 0 1 k).2)
  else if cu len tx (rpS len tx 0 1 k).2 = 61 then
    if (rpS len tx (1 - (rpS len tx 0 1 k).1 / 100 % 10) (1 - (rpS len tx 0 1 k).1 / 100 % 10) ((rpS len tx 0 1 k).2 + 1)).1 = 0 then (0, fun _ => 0, (rpS len tx (1 - (rpS len tx 0 1 k).1 / 100 % 10) (1 - (rpS len tx 0 1 k).1 / 100 % 10) ((rpS len tx 0 1 k).2 + 1)).2)
    else pnS len tx (mk8 0 x y (rpS len tx 0 1 k).1 (rpS len tx (1 - (rpS len tx 0 1 k).1 / 100 % 10) (1 - (rpS len tx 0 1 k).1 / 100 % 10) ((rpS len tx 0 1 k).2 + 1)).1 0 0 0) (rpS len tx (1 - (rpS len tx 0 1 k).1 / 100 % 10) (1 - (rpS len tx 0 1 k).1 / 100 % 10) ((rpS len tx 0 1 k).2 + 1)).2
  else pnS len tx (mk8 0 x y (rpS len tx 0 1 k).1 0 0 0 0) (rpS len tx 0 1 k).2
def rfS (len : Nat) (tx : Nat → Int32) (k : Nat) : Nat × (Nat → Nat) × Nat :=
  if cv 65 6 (cu len tx k) < 6 then
    if cv 65 6 (cu len tx (k + 1)) < 6 then
      if cv 65 6 (cu len tx (k + 1)) = cv 65 6 (cu len tx k) then (2, fun _ => 0, k + 1) else sc1 len tx (k + 2) (cv 65 6 (cu len tx k)) (cv 65 6 (cu len tx (k + 1)))
    else pnS len tx (mk8 1 0 0 0 0 (cv 65 6 (cu len tx k)) 0 0) (k + 1)
  else if cu len tx k = 97 then
    if cv 48 10 (cu len tx (k + 1)) < 10 then
      if cv 65 6 (cu len tx (k + 2)) < 6 then pnS len tx (mk8 3 0 0 0 0 (cv 65 6 (cu len tx (k + 2))) (cv 48 10 (cu len tx (k + 1))) 0) (k + 3) else (0, fun _ => 0, k + 2)
    else (0, fun _ => 0, k + 1)
  else if cu len tx k = 105 then pnS len tx (mk8 2 0 0 0 0 0 0 0) (k + 1)
  else (0, fun _ => 0, k)
/-- the class's answer and the reference's, of such an outcome -/
def cA (len : Nat) (tx : Nat → Int32) (o : Nat × (Nat → Nat) × Nat) : Option (Int64 × Int32 × Int32) := some ((if o.1 = 1 then lN (en o.2.1) else -1), nI o.2.2, cu len tx o.2.2)
def mA (rp : Nat → Int32) (a : Nat) (o : Nat × (Nat → Nat) × Nat) (r : Option (Int32 × Int32 × (Nat → Int32))) : Prop := ∃ g, r = some ((if o.1 = 0 then 0 else 1), nI o.2.2, g) ∧ fr8 g rp a ∧ (o.1 = 1 → rec8 g rp a o.2.1)
/-- in order: a right outcome has right numbers, and it goes on, inside the text -/
def oK (len k : Nat) (o : Nat × (Nat → Nat) × Nat) : Prop := k ≤ o.2.2 ∧ o.2.2 ≤ len ∧ o.1 ≤ 2 ∧ (o.1 = 1 → vF o.2.1)
theorem pn_ok {len : Nat} {tx : Nat → Int32} {k : Nat} (hk : k ≤ len) {F : Nat → Nat} (hF : vF F) : oK len k (pnS len tx F k) ∧ (pnS len tx F k).1 ≠ 2 := by
  unfold pnS oK
  have hr := pgS_rng len tx (k + 1)
  by_cases c : cu len tx k = 64
  · have lk : k < len := cu_ne (c := 64) (by omega) c
    have hq := pgS_len (tx := tx) (k := k + 1) (len := len) (by omega)
    rw [if_pos c]
    by_cases v0 : (pgS len tx (k + 1)).1 = 0
    · rw [if_pos v0]; simp; omega
    · rw [if_neg v0]; simp
      exact ⟨by omega, hq, wp_v hF hr.1⟩
  · rw [if_neg c]; simp
    exact ⟨hk, hF⟩
theorem t_pin {len : Nat} {tx : Nat → Int32} (h : tOK len tx) {k : Nat} (hk : k ≤ 800) {F : Nat → Nat} (hF : vF F) : f_X5_readPin (nI len) (nI k) (cu len tx k) tx (lN (en F)) = cA len tx (pnS len tx F k) := by
  unfold f_X5_readPin pnS cA
  have hr := pgS_rng len tx (k + 1)
  by_cases c : cu len tx k = 64
  · rw [if_pos c, if_pos c, t_adv h k (by omega), e_b2, t_page h (k + 1) (by omega), e_b3]
    by_cases v0 : (pgS len tx (k + 1)).1 = 0
    · rw [if_pos v0, if_pos v0, if_neg (by decide)]; rfl
    · rw [if_neg v0, if_neg v0, if_pos (nI_pos' (by omega)), c_withPin hF (by omega), e_b1]; rfl
  · rw [if_neg c, if_neg c]; rfl
theorem m_pin {len : Nat} {tx : Nat → Int32} (h : tOK len tx) {k a : Nat} (hk : k ≤ len) (ha : a + 8 ≤ 265) {F : Nat → Nat} {g rp : Nat → Int32} (hg : rec8 g rp a F) : mA rp a (pnS len tx F k) (j_X7_readReference_90 (nI len) tx (nI a) 1 (nI k) g) := by
  have hl := h.1
  have hr := pgS_rng len tx (k + 1)
  unfold j_X7_readReference_90 pnS mA
  rw [if_neg (show ¬ (1 : Int32) = 0 by decide), m_next h (by omega), e_b1]
  by_cases c : cu len tx k = 64
  · have lk : k < len := cu_ne (c := 64) (by omega) c
    rw [if_neg (fun z => z c), if_pos c, e_nm, nI_1, m_page h (by omega), e_b2, show nI a + (7 : Int32) = nI (a + 7) from a_add a 7, e_wrI _ _ _ (by omega) (by omega)]
    by_cases v0 : (pgS len tx (k + 1)).1 = 0
    · refine ⟨upd g (a + 7) (-9), ?_, ?_, ?_⟩
      · rw [if_pos v0, if_pos v0, if_pos rfl]; rfl
      · exact fr8_wr hg.2 (by omega)
      · rw [if_pos v0]; intro z; exact absurd (show (0 : Nat) = 1 from z) (by decide)
    · refine ⟨upd g (a + 7) (nI (pgS len tx (k + 1)).1), ?_, fr8_wr hg.2 (by omega), ?_⟩
      · rw [if_neg v0, if_neg v0, if_neg (n_m9 (by omega))]; rfl
      · rw [if_neg v0]; intro _
        exact rec8_wr hg (by omega)
  · refine ⟨g, ?_, ?_, ?_⟩
    · rw [if_pos c, if_neg c, e_bz1]; rfl
    · exact hg.2
    · rw [if_neg c]; intro _; exact hg
theorem cv_i {a n : Nat} {c : Int32} (h : cv a n c < n) (ha : a + n < 2 ^ 31) : c - nI a = nI (cv a n c) := by
  conv => lhs; rw [cv_of h ha]
  rw [pk_sub (by omega)]; congr 1; omega
theorem v_full {x y r o : Nat} (hx : x < 6) (hy : y < 6) (hr : rpOK r) (ho : o = 0 ∨ (rpOK o ∧ o / 100 % 10 ≠ r / 100 % 10)) : vF (mk8 0 x y r o 0 0 0) := ⟨(show (0 : Nat) < 100 by decide), Or.inl ⟨rfl, hx, hy, hr, ho, rfl, rfl⟩⟩
theorem v_short {x : Nat} (hx : x < 6) : vF (mk8 1 0 0 0 0 x 0 0) := ⟨(show (0 : Nat) < 100 by decide), Or.inr (Or.inl ⟨rfl, rfl, rfl, rfl, rfl, hx, rfl⟩)⟩
theorem v_same : vF (mk8 2 0 0 0 0 0 0 0) := ⟨(show (0 : Nat) < 100 by decide), Or.inr (Or.inr (Or.inl ⟨rfl, rfl, rfl, rfl, rfl, rfl, rfl⟩))⟩
theorem v_above {x z : Nat} (hx : x < 6) (hz : z < 10) : vF (mk8 3 0 0 0 0 x z 0) := ⟨(show (0 : Nat) < 100 by decide), Or.inr (Or.inr (Or.inr ⟨rfl, rfl, rfl, rfl, rfl, hx, hz⟩))⟩
theorem rp_lt {r : Nat} (h : rpOK r) : r < 10000 ∧ 0 < r := by unfold rpOK at h; omega
theorem x_ser {r : Nat} (hr : rpOK r) (sr : Nat) (hs : sr ≤ 1) : f_X6_isOfSeries (nI r) (nI sr) = some (if r / 100 % 10 = sr then 1 else 0) := by
  have := rp_lt hr
  unfold f_X6_isOfSeries
  rw [if_neg (nI_ne0 (by omega) (by omega)), show (100 : Int32) = nI 100 from rfl, show (10 : Int32) = nI 10 from rfl, pk_div (by omega) (by omega) (by omega), pk_rem (by omega) (by omega) (by omega)]
  by_cases q : r / 100 % 10 = sr
  · rw [if_pos q, q, if_neg (fun z => z rfl)]
  · rw [if_neg q, if_pos]
    rw [nI_eq (by omega) (by omega)]; exact q
theorem sc_ok {len : Nat} {tx : Nat → Int32} {k x y : Nat} (hk : k ≤ len) (hx : x < 6) (hy : y < 6) : oK len k (sc1 len tx k x y) ∧ (sc1 len tx k x y).1 ≠ 2 := by
  unfold sc1
  have hr := rpS_rng len tx 0 1 k
  have hq := rpS_len (tx := tx) (lo := 0) (hi := 1) hk (by omega)
  by_cases h1 : (rpS len tx 0 1 k).1 = 0
  · rw [if_pos h1]; unfold oK; simp; omega
  · rw [if_neg h1]
    have o1 := rpS_ok (by omega) h1
    by_cases h2 : cu len tx (rpS len tx 0 1 k).2 = 61
    · have lk := cu_ne (c := 61) (by omega) h2
      rw [if_pos h2]
      generalize hs : 1 - (rpS len tx 0 1 k).1 / 100 % 10 = s
      have hr2 := rpS_rng len tx s s ((rpS len tx 0 1 k).2 + 1)
      have hq2 := rpS_len (tx := tx) (lo := s) (hi := s) (k := (rpS len tx 0 1 k).2 + 1) (len := len) (by omega) (by omega)
      by_cases h3 : (rpS len tx s s ((rpS len tx 0 1 k).2 + 1)).1 = 0
      · rw [if_pos h3]; unfold oK; simp; omega
      · rw [if_neg h3]
        have o2 := rpS_ok (by omega) h3
        have := pn_ok (tx := tx) hq2 (v_full hx hy o1.1 (Or.inr ⟨o2.1, by omega⟩))
        unfold oK at this ⊢
        exact ⟨⟨by omega, this.1.2⟩, this.2⟩
    · rw [if_neg h2]
      have := pn_ok (tx := tx) hq (v_full hx hy o1.1 (Or.inl rfl))
      unfold oK at this ⊢
      exact ⟨⟨by omega, this.1.2⟩, this.2⟩
theorem rf_ok {len : Nat} {tx : Nat → Int32} {k : Nat} (hk : k ≤ len) : oK len k (rfS len tx k) ∧ ((rfS len tx k).1 = 1 → k < (rfS len tx k).2.2) ∧ ((rfS len tx k).1 = 2 → cv 65 6 (cu len tx (rfS len tx k).2.2) < 6) := by
  have up : ∀ {j : Nat} {o : Nat × (Nat → Nat) × Nat}, k < j → oK len j o ∧ o.1 ≠ 2 → oK len k o ∧ (o.1 = 1 → k < o.2.2) ∧ (o.1 = 2 → cv 65 6 (cu len tx o.2.2) < 6) := by
    intro j o hj h
    unfold oK at h ⊢
    exact ⟨⟨by omega, h.1.2⟩, fun _ => by omega, fun z => absurd z h.2⟩
  unfold rfS
  by_cases h1 : cv 65 6 (cu len tx k) < 6
  · have l1 := cu_lt h1
    rw [if_pos h1]
    by_cases h2 : cv 65 6 (cu len tx (k + 1)) < 6
    · have l2 := cu_lt h2
      rw [if_pos h2]
      by_cases h3 : cv 65 6 (cu len tx (k + 1)) = cv 65 6 (cu len tx k)
      · rw [if_pos h3]; unfold oK
        exact ⟨⟨by simp, by simp; omega, by simp, fun z => absurd (show (2 : Nat) = 1 from z) (by decide)⟩, fun _ => Nat.lt_succ_self k, fun _ => h2⟩
      · rw [if_neg h3]; exact up (j := k + 2) (by omega) (sc_ok (by omega) h1 h2)
    · rw [if_neg h2]; exact up (j := k + 1) (by omega) (pn_ok (by omega) (v_short h1))
  · rw [if_neg h1]
    have bad : ∀ j, k ≤ j → j ≤ len → oK len k (0, (fun _ => 0), j) ∧ ((0, (fun (_ : Nat) => (0 : Nat)), j).1 = 1 → k < j) ∧ ((0, (fun (_ : Nat) => (0 : Nat)), j).1 = 2 → cv 65 6 (cu len tx j) < 6) := by
      intro j a b
      unfold oK
      exact ⟨⟨a, b, by simp, fun z => absurd (show (0 : Nat) = 1 from z) (by decide)⟩, fun z => absurd (show (0 : Nat) = 1 from z) (by decide), fun z => absurd (show (0 : Nat) = 2 from z) (by decide)⟩
    by_cases h2 : cu len tx k = 97
    · have l2 := cu_ne (c := 97) (by omega) h2
      rw [if_pos h2]
      by_cases h3 : cv 48 10 (cu len tx (k + 1)) < 10
      · have l3 := cu_lt h3
        rw [if_pos h3]
        by_cases h4 : cv 65 6 (cu len tx (k + 2)) < 6
        · have l4 := cu_lt h4
          rw [if_pos h4]; exact up (j := k + 3) (by omega) (pn_ok (by omega) (v_above h4 h3))
        · rw [if_neg h4]; exact bad (k + 2) (by omega) (by omega)
      · rw [if_neg h3]; exact bad (k + 1) (by omega) (by omega)
    · rw [if_neg h2]
      by_cases h3 : cu len tx k = 105
      · have l3 := cu_ne (c := 105) (by omega) h3
        rw [if_pos h3]; exact up (j := k + 1) (by omega) (pn_ok (by omega) v_same)
      · rw [if_neg h3]; exact bad k (by omega) hk
theorem b3eta {len : Nat} {tx : Nat → Int32} (o : Nat × (Nat → Nat) × Nat) : pn_bd3 (cA len tx o) (fun a b c => some (a, b, c)) = cA len tx o := rfl
theorem t_named {len : Nat} {tx : Nat → Int32} (h : tOK len tx) {k : Nat} (hk : k ≤ 500) (h1 : cv 65 6 (cu len tx k) < 6) : f_X5_readNamed (nI len) (nI k) (cu len tx k) tx = cA len tx (rfS len tx k) := by
  unfold f_X5_readNamed rfS
  rw [if_pos h1, e_nm, t_adv h k (by omega), e_b2, t_let, e_b1, show cu len tx k - 65 = nI (cv 65 6 (cu len tx k)) from cv_i (a := 65) (n := 6) h1 (by decide)]
  by_cases h2 : cv 65 6 (cu len tx (k + 1)) < 6
  · rw [if_pos h2, if_pos (by decide), if_pos h2, e_nm, show cu len tx (k + 1) - 65 = nI (cv 65 6 (cu len tx (k + 1))) from cv_i (a := 65) (n := 6) h2 (by decide)]
    by_cases h3 : cv 65 6 (cu len tx (k + 1)) = cv 65 6 (cu len tx k)
    · rw [if_pos h3, if_neg (fun z => z (by rw [h3]))]; rfl
    · rw [if_neg h3, if_pos (fun z => h3 ((nI_eq (by omega) (by omega)).mp z)), t_adv h (k + 1) (by omega), e_b2, show f_X5_readReport (nI len) (nI (k + 2)) (cu len tx (k + 2)) tx 114 115 = _ from t_report h (k + 2) (by omega) (lo := 0) (hi := 1) (Or.inl ⟨rfl, rfl⟩), e_b3]
      unfold sc1
      have hr := rpS_rng len tx 0 1 (k + 2)
      by_cases h4 : (rpS len tx 0 1 (k + 2)).1 = 0
      · rw [if_pos h4, if_pos h4, if_neg (by decide)]; rfl
      · have o1 := rpS_ok (by omega) h4
        have b1 := rp_lt o1.1
        rw [if_neg h4, if_neg h4, if_pos (nI_pos' (by omega))]
        by_cases h5 : cu len tx (rpS len tx 0 1 (k + 2)).2 = 61
        · rw [if_pos h5, if_pos h5, t_adv h _ (by omega), e_b2, show f_X6_isOfSeries (nI (rpS len tx 0 1 (k + 2)).1) 0 = _ from x_ser o1.1 0 (by omega), e_b1]
          have hj : ∀ s : Nat, s ≤ 1 → s = 1 - (rpS len tx 0 1 (k + 2)).1 / 100 % 10 → j_X5_readNamed_109 (nI len) tx (nI (cv 65 6 (cu len tx k))) (nI (cv 65 6 (cu len tx (k + 1)))) (nI (rpS len tx 0 1 (k + 2)).1) (nI (114 + s)) (nI ((rpS len tx 0 1 (k + 2)).2 + 1)) (cu len tx ((rpS len tx 0 1 (k + 2)).2 + 1)) =
              cA len tx (if (rpS len tx s s ((rpS len tx 0 1 (k + 2)).2 + 1)).1 = 0 then (0, fun _ => 0, (rpS len tx s s ((rpS len tx 0 1 (k + 2)).2 + 1)).2) else pnS len tx (mk8 0 (cv 65 6 (cu len tx k)) (cv 65 6 (cu len tx (k + 1))) (rpS len tx 0 1 (k + 2)).1 (rpS len tx s s ((rpS len tx 0 1 (k + 2)).2 + 1)).1 0 0 0) (rpS len tx s s ((rpS len tx 0 1 (k + 2)).2 + 1)).2) := by
            intro s hs he
            unfold j_X5_readNamed_109
            have hr2 := rpS_rng len tx s s ((rpS len tx 0 1 (k + 2)).2 + 1)
            rw [t_report h _ (by omega) (lo := s) (hi := s) (by omega), e_b3]
            by_cases h6 : (rpS len tx s s ((rpS len tx 0 1 (k + 2)).2 + 1)).1 = 0
            · rw [if_pos h6, if_pos h6, if_neg (by decide)]; rfl
            · have o2 := rpS_ok (by omega) h6
              have b2 := rp_lt o2.1
              rw [if_neg h6, if_neg h6, if_pos (nI_pos' (by omega)), x_makeFull (by omega) (by omega) (by omega) (by omega), e_b1]
              have hv := v_full h1 h2 o1.1 (Or.inr ⟨o2.1, by omega⟩)
              rw [show lN (ce 0 (cv 65 6 (cu len tx k)) (cv 65 6 (cu len tx (k + 1))) (rpS len tx 0 1 (k + 2)).1 (rpS len tx s s ((rpS len tx 0 1 (k + 2)).2 + 1)).1 0 0) = lN (en (mk8 0 (cv 65 6 (cu len tx k)) (cv 65 6 (cu len tx (k + 1))) (rpS len tx 0 1 (k + 2)).1 (rpS len tx s s ((rpS len tx 0 1 (k + 2)).2 + 1)).1 0 0 0)) from rfl, t_pin h (by omega) hv, b3eta]
          by_cases h6 : (rpS len tx 0 1 (k + 2)).1 / 100 % 10 = 0
          · rw [if_pos h6, if_neg (by decide)]
            have := hj 1 (by omega) (by omega)
            rw [h6]
            exact this
          · rw [if_neg h6, if_pos rfl]
            have h7 : (rpS len tx 0 1 (k + 2)).1 / 100 % 10 = 1 := by have := o1.2; omega
            have := hj 0 (by omega) (by omega)
            rw [h7]
            exact this
        · rw [if_neg h5, if_neg h5, show (0 : Int32) = nI 0 from rfl, x_makeFull (by omega) (by omega) (by omega) (by omega), e_b1]
          have hv := v_full h1 h2 o1.1 (Or.inl rfl)
          rw [show lN (ce 0 (cv 65 6 (cu len tx k)) (cv 65 6 (cu len tx (k + 1))) (rpS len tx 0 1 (k + 2)).1 0 0 0) = lN (en (mk8 0 (cv 65 6 (cu len tx k)) (cv 65 6 (cu len tx (k + 1))) (rpS len tx 0 1 (k + 2)).1 0 0 0 0)) from rfl, t_pin h (by omega) hv, b3eta]
  · rw [if_neg h2, if_neg (by decide), if_neg h2, x_makeShort (by omega), e_b1, show lN (ce 1 (cv 65 6 (cu len tx k)) 0 0 0 0 0) = lN (en (mk8 1 0 0 0 0 (cv 65 6 (cu len tx k)) 0 0)) from by unfold en mk8; simp, t_pin h (by omega) (v_short h1), b3eta]
theorem t_cite {len : Nat} {tx : Nat → Int32} (h : tOK len tx) {k : Nat} (hk : k ≤ 500) : f_X5_readCite (nI len) (nI k) (cu len tx k) tx = cA len tx (rfS len tx k) := by
  unfold f_X5_readCite
  rw [t_let, e_b1]
  by_cases h1 : cv 65 6 (cu len tx k) < 6
  · rw [if_pos h1, if_neg (by decide), t_named h hk h1, b3eta]
  · rw [if_neg h1, if_pos rfl]
    unfold rfS
    rw [if_neg h1]
    by_cases h2 : cu len tx k = 97
    · rw [if_neg (fun z => z h2), if_pos h2]
      unfold f_X5_readAbove
      rw [t_adv h k (by omega), e_b2, t_dig, e_b1]
      by_cases h3 : cv 48 10 (cu len tx (k + 1)) < 10
      · rw [if_pos h3, if_pos (by decide), if_pos h3, e_nm, t_adv h (k + 1) (by omega), e_b2, t_let, e_b1, show cu len tx (k + 1) - 48 = nI (cv 48 10 (cu len tx (k + 1))) from cv_i (a := 48) (n := 10) h3 (by decide)]
        by_cases h4 : cv 65 6 (cu len tx (k + 2)) < 6
        · rw [if_pos h4, if_pos (by decide), if_pos h4, e_nm, t_adv h (k + 2) (by omega), e_b2, show cu len tx (k + 2) - 65 = nI (cv 65 6 (cu len tx (k + 2))) from cv_i (a := 65) (n := 6) h4 (by decide), x_makeAbove (by omega) (by omega), e_b1,
            show lN (ce 3 (cv 65 6 (cu len tx (k + 2))) 0 0 0 0 (cv 48 10 (cu len tx (k + 1)))) = lN (en (mk8 3 0 0 0 0 (cv 65 6 (cu len tx (k + 2))) (cv 48 10 (cu len tx (k + 1))) 0)) from by unfold en mk8; simp, t_pin h (by omega) (v_above h4 h3), b3eta, b3eta]
        · rw [if_neg h4, if_neg (by decide), if_neg h4]; rfl
      · rw [if_neg h3, if_neg (by decide), if_neg h3]; rfl
    · rw [if_pos h2, if_neg h2]
      by_cases h3 : cu len tx k = 105
      · rw [if_pos h3, if_pos h3, t_adv h k (by omega), e_b2, x_makeSame, e_b1, show lN (ce 2 0 0 0 0 0 0) = lN (en (mk8 2 0 0 0 0 0 0 0)) from rfl, t_pin h (by omega) v_same, b3eta]
      · rw [if_neg h3, if_neg h3]; rfl
