/-! which slots are there, which are left, which are spelled out; by the reference -/
def th (n : Nat) (z : Nat → Nat) (r : Nat) : Bool := decide (r / 4 < n ∧ r % 4 < z (r / 4))
def lf (n : Nat) (z : Nat → Nat) (L r : Nat) : Bool := th n z r && L.testBit (r / 4)
def sp (n : Nat) (z : Nat → Nat) (G : Nat → Nat → Nat) (L r : Nat) : Bool := lf n z L r && decide (G r 0 = 0)
def hr (G : Nat → Nat → Nat) (s x : Nat) : Bool := decide (x ≠ 0) && (decide (G s 3 = x) || decide (G s 4 = x))
def mt (G : Nat → Nat → Nat) (r s : Nat) : Bool := hr G s (G r 3) || hr G s (G r 4)
def b1 (b : Bool) : Int32 := if b then 1 else 0
theorem b1_0 (b : Bool) : (b1 b = 0) = (b = false) := by cases b <;> simp [b1]
theorem b1_n0 (b : Bool) : (¬ b1 b = 0) = (b = true) := by cases b <;> simp [b1]
theorem b1_bz {β : Type} (b : Bool) (k : Option β) : pn_bz (b1 b) k = k := by cases b <;> simp [b1, e_bz0, e_bz1]
theorem th_lt {n : Nat} {z : Nat → Nat} {r : Nat} (h : th n z r = true) (hn : n ≤ 8) : r < 32 := by
  have := of_decide_eq_true h
  omega
theorem th_v {n : Nat} {z : Nat → Nat} {G : Nat → Nat → Nat} (ha : aP n z G) {r : Nat} (h : th n z r = true) : vF (G r) := by
  have h := of_decide_eq_true h
  have := (ha.2 (r / 4) h.1).2.2 (r % 4) h.2
  rw [show 4 * (r / 4) + r % 4 = r by omega] at this
  exact this
theorem mP_f {n : Nat} {z : Nat → Nat} {G : Nat → Nat → Nat} {p : Nat → Int32} (hm : mP n z G p) {r i : Nat} (h : th n z r = true) (hi : i < 8) : p (9 + 8 * r + i) = nI (G r i) := by
  have h := of_decide_eq_true h
  have := (hm.2 (r / 4) h.1).2 (r % 4) h.2 i hi
  rw [show 4 * (r / 4) + r % 4 = r by omega] at this
  exact this
theorem lf_th {n : Nat} {z : Nat → Nat} {L r : Nat} (h : lf n z L r = true) : th n z r = true := by
  unfold lf at h
  simp only [Bool.and_eq_true] at h
  exact h.1
theorem sp_lf {n : Nat} {z : Nat → Nat} {G : Nat → Nat → Nat} {L r : Nat} (h : sp n z G L r = true) : lf n z L r = true := by
  unfold sp at h
  simp only [Bool.and_eq_true] at h
  exact h.1
theorem sp_0 {n : Nat} {z : Nat → Nat} {G : Nat → Nat → Nat} {L r : Nat} (h : sp n z G L r = true) : G r 0 = 0 := by
  unfold sp at h
  simp only [Bool.and_eq_true] at h
  exact of_decide_eq_true h.2
theorem div4 (r : Nat) (hr : r < 2 ^ 30) : nI r / 4 = nI (r / 4) := by rw [show (4 : Int32) = nI 4 from rfl, pk_div (by omega) (by omega) (by omega)]
theorem mod4 (r : Nat) (hr : r < 2 ^ 30) : nI r - nI r / 4 * 4 = nI (r % 4) := by rw [show (4 : Int32) = nI 4 from rfl, pk_rem (by omega) (by omega) (by omega)]
theorem rd0 {β : Type} (p : Nat → Int32) (c : Int32 → Option β) : pn_rd 265 p 0 c = c (p 0) := e_rd (k := 0) p c (by omega) (by omega)
/-- any two ints as a place -/
theorem m_thereI {n : Nat} {z : Nat → Nat} {G : Nat → Nat → Nat} {p : Nat → Int32} (ha : aP n z G) (hm : mP n z G p) (x y : Int32) : f_X7_isThere p x y = some (if 0 ≤ x.toInt ∧ x.toInt < n ∧ 0 ≤ y.toInt ∧ y.toInt < z x.toNatClampNeg then 1 else 0) := by
  have h8 := ha.1
  unfold f_X7_isThere
  rw [rd0, hm.1, x_inr x (by omega), e_b1]
  by_cases c : 0 ≤ x.toInt ∧ x.toInt < n
  · obtain ⟨k, hk, rfl⟩ := i_of c.1 c.2
    have hz := (ha.2 k hk).2.1
    rw [if_pos c, if_neg (by decide), show (1 : Int32) + nI k = nI (1 + k) from a_add 1 k, e_rd _ _ (by omega) (by omega), (hm.2 k hk).1, x_inr y (by omega), e_b1, nI_clamp (by omega), nI_toInt (by omega)]
    by_cases d : 0 ≤ y.toInt ∧ y.toInt < z k
    · rw [if_pos d, if_neg (by decide), if_pos ⟨by omega, by omega, d⟩]
    · rw [if_neg d, if_pos rfl, if_neg (fun w => d w.2.2)]
  · rw [if_neg c, if_pos rfl, if_neg (fun w => c ⟨w.1, w.2.1⟩)]
theorem m_there {n : Nat} {z : Nat → Nat} {G : Nat → Nat → Nat} {p : Nat → Int32} (ha : aP n z G) (hm : mP n z G p) {r : Nat} (hr : r < 1000) : f_X7_isThere p (nI (r / 4)) (nI (r % 4)) = some (b1 (th n z r)) := by
  rw [m_thereI ha hm, nI_toInt (by omega), nI_toInt (by omega), nI_clamp (by omega)]
  unfold b1 th
  congr 1
  by_cases c : r / 4 < n ∧ r % 4 < z (r / 4)
  · rw [if_pos (by omega), if_pos (by simp [c])]
  · rw [if_neg (by omega), if_neg (by simp only [decide_eq_true_eq]; exact c)]
theorem x_bit {L k : Nat} (hL : L < 2 ^ 31) (hk : k < 31) : ((nI L >>> (nI k &&& 31)) &&& 1) = nI (L / 2 ^ k % 2) := by
  rw [pk_shrN hL _ k (by
    have := s_l k (by omega)
    exact this)]
  exact fa_mask (L / 2 ^ k) 1
theorem tb_dm (L k : Nat) : L.testBit k = decide (L / 2 ^ k % 2 = 1) := by
  rw [Nat.testBit_eq_decide_div_mod_eq]
theorem m_has {L k : Nat} (hL : L < 2 ^ 31) (hk : k < 31) : f_X7_has (nI L) (nI k) = some (b1 (L.testBit k)) := by
  unfold f_X7_has
  rw [x_bit hL hk, tb_dm, show (1 : Int32) = nI 1 from rfl]
  unfold b1
  by_cases c : L / 2 ^ k % 2 = 1
  · rw [if_neg (fun w => w (by rw [c])), if_pos (by simp [c])]; rfl
  · rw [if_pos (fun w => c ((nI_eq (by omega) (by omega)).mp w)), if_neg (by simp [c])]
theorem m_left {n : Nat} {z : Nat → Nat} {G : Nat → Nat → Nat} {p : Nat → Int32} (ha : aP n z G) (hm : mP n z G p) {L r : Nat} (hL : L < 2 ^ 31) (hr : r < 100) : f_X7_isLeft p (nI L) (nI r) = some (b1 (lf n z L r)) := by
  unfold f_X7_isLeft lf
  rw [div4 r (by omega), show nI r - nI (r / 4) * 4 = nI (r % 4) from by rw [← div4 r (by omega)]; exact mod4 r (by omega), m_there ha hm (by omega), e_b1]
  cases ht : th n z r with
  | false => rw [if_pos (by rw [b1_0])]; rfl
  | true =>
    rw [if_neg (by rw [b1_n0]), m_has hL (by omega), e_b1, Bool.true_and]
    cases hb : L.testBit (r / 4) with
    | false => rw [if_pos (by rw [b1_0])]; rfl
    | true => rw [if_neg (by rw [b1_n0])]; rfl
theorem m_refr {p : Nat → Int32} {r i : Nat} (hr : r < 32) (hi : i < 8) : f_X7_ref p (nI r) (nI i) = some (p (9 + 8 * r + i)) := by
  unfold f_X7_ref
  rw [show (9 : Int32) = nI 9 from rfl, show (8 : Int32) = nI 8 from rfl, pk_mul, nI_add, nI_add, e_rd _ _ (by omega) (by omega)]
theorem m_refT {n : Nat} {z : Nat → Nat} {G : Nat → Nat → Nat} {p : Nat → Int32} (ha : aP n z G) (hm : mP n z G p) {r i : Nat} (h : th n z r = true) (hi : i < 8) : f_X7_ref p (nI r) (nI i) = some (nI (G r i)) := by
  rw [m_refr (th_lt h ha.1) hi, mP_f hm h hi]
theorem vF_lt {F : Nat → Nat} (h : vF F) {i : Nat} (hi : i < 8) : F i < 10000 := by
  unfold vF rpOK at h
  rcases i8 hi with rfl | rfl | rfl | rfl | rfl | rfl | rfl | rfl <;> omega
theorem m_sp {n : Nat} {z : Nat → Nat} {G : Nat → Nat → Nat} {p : Nat → Int32} (ha : aP n z G) (hm : mP n z G p) {L r : Nat} (hL : L < 2 ^ 31) (hr : r < 100) : f_X7_isSpelled p (nI L) (nI r) = some (b1 (sp n z G L r)) := by
  unfold f_X7_isSpelled
  rw [m_left ha hm hL hr, e_b1]
  cases hl : lf n z L r with
  | false => rw [if_pos (by rw [b1_0])]; unfold sp; rw [hl]; rfl
  | true =>
    have ht := lf_th hl
    rw [if_neg (by rw [b1_n0]), show f_X7_ref p (nI r) 0 = _ from m_refT ha hm ht (i := 0) (by omega), e_b1]
    have := vF_lt (th_v ha ht) (i := 0) (by omega)
    unfold sp
    rw [hl]
    by_cases c : G r 0 = 0
    · rw [if_neg (fun w => w (by rw [c]; rfl)), Bool.true_and]; simp [c, b1]
    · rw [if_pos (nI_ne0 (by omega) (by omega)), Bool.true_and]; simp [c, b1]
theorem m_hr {n : Nat} {z : Nat → Nat} {G : Nat → Nat → Nat} {p : Nat → Int32} (ha : aP n z G) (hm : mP n z G p) {s x : Nat} (h : th n z s = true) (hx : x < 2 ^ 31) : f_X7_hasReport p (nI s) (nI x) = some (b1 (hr G s x)) := by
  have h3 := vF_lt (th_v ha h) (i := 3) (by omega)
  have h4 := vF_lt (th_v ha h) (i := 4) (by omega)
  unfold f_X7_hasReport hr
  by_cases c : x = 0
  · rw [if_pos (by rw [c]; rfl)]; simp [c, b1]
  · rw [if_neg (nI_ne0 (by omega) hx), show f_X7_ref p (nI s) 3 = _ from m_refT ha hm h (i := 3) (by omega), e_b1]
    by_cases d : G s 3 = x
    · rw [if_pos (by rw [d])]; simp [c, d, b1]
    · rw [if_neg (fun w => d ((nI_eq (by omega) hx).mp w)), show f_X7_ref p (nI s) 4 = _ from m_refT ha hm h (i := 4) (by omega), e_b1]
      by_cases e : G s 4 = x
      · rw [if_neg (fun w => w (by rw [e]))]; simp [c, e, b1]
      · rw [if_pos (fun w => e ((nI_eq (by omega) hx).mp w))]; simp [d, e, b1]
theorem m_mt {n : Nat} {z : Nat → Nat} {G : Nat → Nat → Nat} {p : Nat → Int32} (ha : aP n z G) (hm : mP n z G p) {r s : Nat} (h : th n z r = true) (h2 : th n z s = true) : f_X7_meets p (nI r) (nI s) = some (b1 (mt G r s)) := by
  have h3 := vF_lt (th_v ha h) (i := 3) (by omega)
  have h4 := vF_lt (th_v ha h) (i := 4) (by omega)
  unfold f_X7_meets mt
  rw [show f_X7_ref p (nI r) 3 = _ from m_refT ha hm h (i := 3) (by omega), e_b1, m_hr ha hm h2 (by omega), e_b1, show f_X7_ref p (nI r) 4 = _ from m_refT ha hm h (i := 4) (by omega), e_b1, m_hr ha hm h2 (by omega), e_b1]
  cases hr G s (G r 3) <;> cases hr G s (G r 4) <;> simp [b1]
