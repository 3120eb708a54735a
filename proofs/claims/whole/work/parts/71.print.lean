/-! how a reference is written; shorter and print -/
section
variable {n : Nat} {z : Nat → Nat} {G : Nat → Nat → Nat} {p sz : Nat → Int32} {ci : Nat → Int64} {L N : Nat} {ver lv sv pr cs0 ct av dd fl c1 c0 l0 : Int32} {ca fs fb mb nb ra lk cf fi rn cf0 fi0 lb0 rn0 bf : Nat → Int32}
def wd (F : Nat → Nat) : Nat := (if F 7 = 0 then 0 else 3) + (if F 0 = 0 then (if F 4 = 0 then 6 else 11) else if F 0 = 3 then 3 else 1)
theorem x_width {F : Nat → Nat} (h : vF F) : f_X0_width (lN (en F)) = some (nI (wd F)) := by
  have hb := vF_b h
  have hj : ∀ s, j_X0_width_12 (lN (en F)) (nI s) = some (nI (s + (if F 0 = 0 then (if F 4 = 0 then 6 else 11) else if F 0 = 3 then 3 else 1))) := by
    intro s
    unfold j_X0_width_12
    rw [c_form h, e_b1]
    by_cases q : F 0 = 0
    · rw [if_pos (by rw [q]; rfl), c_other h, e_b1, if_pos q]
      by_cases q4 : F 4 = 0
      · rw [if_neg (fun w => w (by rw [q4]; rfl)), if_pos q4, show (6 : Int32) = nI 6 from rfl, nI_add]
      · rw [if_pos (nI_ne0 (by omega) (by omega)), if_neg q4, show (11 : Int32) = nI 11 from rfl, nI_add]
    · rw [if_neg (nI_ne0 (by omega) (by omega)), if_neg q]
      by_cases q3 : F 0 = 3
      · rw [if_pos (by rw [q3]; rfl), if_pos q3, show (3 : Int32) = nI 3 from rfl, nI_add]
      · rw [if_neg (show ¬ nI (F 0) = 3 from fun w => q3 ((nI_eq (b := 3) (by omega) (by omega)).mp w)), if_neg q3, show (1 : Int32) = nI 1 from rfl, nI_add]
  unfold f_X0_width wd
  rw [c_pin h, e_b1]
  by_cases q : F 7 = 0
  · rw [if_neg (fun w => w (by rw [q]; rfl)), if_pos q]; exact hj 0
  · rw [if_pos (nI_ne0 (by omega) (by omega)), if_neg q]; exact hj 3
theorem b_rd {F : Nat → Nat} (hbf : ∀ i, i < 8 → bf i = nI (F i)) {i : Nat} (hi : i < 8) {β : Type} (k : Int32 → Option β) : pn_rd 8 bf (nI i) k = k (nI (F i)) := by rw [e_rd _ _ hi (by omega), hbf i hi]
theorem m_width {F : Nat → Nat} (h : vF F) (hbf : ∀ i, i < 8 → bf i = nI (F i)) : f_X7_briefLetters bf = some (nI (wd F)) := by
  have hb := vF_b h
  unfold f_X7_briefLetters wd
  rw [show ∀ k, pn_rd (β := Int32) 8 bf 0 k = k (nI (F 0)) from fun k => b_rd hbf (i := 0) (by omega) k]
  by_cases q : F 0 = 0
  · rw [if_neg (fun w => w (by rw [q]; rfl)), if_pos q, show ∀ k, pn_rd (β := Int32) 8 bf 4 k = k (nI (F 4)) from fun k => b_rd hbf (i := 4) (by omega) k]
    by_cases q4 : F 4 = 0
    · rw [if_neg (fun w => w (by rw [q4]; rfl)), if_pos q4, show ∀ k, pn_rd (β := Int32) 8 bf 7 k = k (nI (F 7)) from fun k => b_rd hbf (i := 7) (by omega) k]
      by_cases q7 : F 7 = 0
      · rw [if_neg (fun w => w (by rw [q7]; rfl)), if_pos q7]; rfl
      · rw [if_pos (nI_ne0 (by omega) (by omega)), if_neg q7]; rfl
    · rw [if_pos (nI_ne0 (by omega) (by omega)), if_neg q4, show ∀ k, pn_rd (β := Int32) 8 bf 7 k = k (nI (F 7)) from fun k => b_rd hbf (i := 7) (by omega) k]
      by_cases q7 : F 7 = 0
      · rw [if_neg (fun w => w (by rw [q7]; rfl)), if_pos q7]; rfl
      · rw [if_pos (nI_ne0 (by omega) (by omega)), if_neg q7]; rfl
  · rw [if_pos (nI_ne0 (by omega) (by omega)), if_neg q, show ∀ k, pn_rd (β := Int32) 8 bf 0 k = k (nI (F 0)) from fun k => b_rd hbf (i := 0) (by omega) k]
    by_cases q3 : F 0 = 3
    · rw [if_neg (fun w => w (by rw [q3]; rfl)), if_pos q3, show ∀ k, pn_rd (β := Int32) 8 bf 7 k = k (nI (F 7)) from fun k => b_rd hbf (i := 7) (by omega) k]
      by_cases q7 : F 7 = 0
      · rw [if_neg (fun w => w (by rw [q7]; rfl)), if_pos q7]; rfl
      · rw [if_pos (nI_ne0 (by omega) (by omega)), if_neg q7]; rfl
    · rw [if_pos (show ¬ nI (F 0) = 3 from fun w => q3 ((nI_eq (b := 3) (by omega) (by omega)).mp w)), if_neg q3, show ∀ k, pn_rd (β := Int32) 8 bf 7 k = k (nI (F 7)) from fun k => b_rd hbf (i := 7) (by omega) k]
      by_cases q7 : F 7 = 0
      · rw [if_neg (fun w => w (by rw [q7]; rfl)), if_pos q7]; rfl
      · rw [if_pos (nI_ne0 (by omega) (by omega)), if_neg q7]; rfl
theorem s_shorter (ha : aP n z G) (hc : cP n z G (nI n) sz ci) (hm : mP n z G p) (hN : 2000 ≤ N) (h : sK n z G ver (lv, sv, pr, fl, cs0, ct, av, dd, ca, fs, fb, lk, mb, nb, ra)) (t0 p1 p2 p3 : Int32) :
    ∃ a s' m', f_X6_shorter N lv sv pr fl cs0 ct av dd ca fs fb lk mb nb (nI n) ver ci sz ra p1 p2 p3 = some (a, s') ∧ sK n z G ver s' ∧ ((s'.1 = lv ∧ s'.2.1 = sv) ∨ (s'.1 = ver ∧ s'.2.1 = ver)) ∧ f_X7_shorter N t0 c0 l0 bf cf0 fi0 lb0 p rn0 p1 p2 p3 = some (a, m') := by
  generalize hX : f_X6_shorter _ _ _ _ _ _ _ _ _ _ _ _ _ _ _ _ _ _ _ _ _ _ _ = X
  generalize hY : f_X7_shorter _ _ _ _ _ _ _ _ _ _ _ _ _ = Y
  unfold f_X6_shorter at hX
  unfold f_X7_shorter at hY
  by_cases q : pl n z p1 p2
  · rw [(x_hasRef ha hc p1 p2).1 q, e_b1, if_pos (by decide)] at hX
    rw [(m_hasRef ha hm p1 p2).1 q, e_b1, if_pos (by decide)] at hY
    by_cases w : p3 = 0 ∨ p3 = 1
    · obtain ⟨pr2, fl2, cs2, ct2, av2, dd2, ca2, fs2, fb2, lk2, mb2, nb2, ra2, e1, e2, e3⟩ := x_studyF ha hc hN h
      obtain ⟨a, b, h1, h2, rfl, rfl, h3⟩ := pl_of ha.1 q (fun k hk => (ha.2 k hk).2.1)
      have r32 := th_lt h3 ha.1
      obtain ⟨c1, l1, cf, fi, lb, rn, f1, f2⟩ := m_FA ha hm hN c0 l0 cf0 fi0 lb0 rn0
      obtain ⟨l2, g, g1, g2⟩ := m_shB (bf := bf) ha hm f2 hN h3 l1
      have hv := shB_v ha h3
      rw [e1, e_b15, x_slot, e_b1, x_shB ha hc e2.1 e3 hN h3, e_b1] at hX
      rw [(x_in01 p3).1 w, e_b1, if_pos (by decide), f1, e_b6, four_add, g1, e_b2] at hY
      rcases w with rfl | rfl
      · rw [if_neg (show ¬ (0 : Int32) < 0 by decide), if_pos (show (0 : Int32) ≤ 1 by decide), if_neg (fun w => w rfl), c_form hv, e_b1] at hX
        rw [if_neg (fun w => w rfl), show (0 : Int32) = nI 0 from rfl, b_rd g2 (by omega)] at hY
        subst hX hY
        exact ⟨_, _, _, rfl, sK_st e2 e3, Or.inr ⟨rfl, rfl⟩, rfl⟩
      · rw [if_neg (show ¬ (1 : Int32) < 0 by decide), if_pos (show (1 : Int32) ≤ 1 by decide), if_pos (by decide), x_width hv, e_b1] at hX
        rw [if_pos (by decide), m_width hv g2, e_b1] at hY
        subst hX hY
        exact ⟨_, _, _, rfl, sK_st e2 e3, Or.inr ⟨rfl, rfl⟩, rfl⟩
    · rw [(x_in01 p3).2 w, e_b1, if_neg (fun k => k rfl)] at hY
      by_cases k0 : p3 < 0
      · rw [if_pos k0] at hX
        subst hX hY
        exact ⟨_, _, _, rfl, h, Or.inl ⟨rfl, rfl⟩, rfl⟩
      · rw [if_neg k0, if_neg (show ¬ p3 ≤ 1 from fun k1 => by
          rw [i_lt] at k0
          rw [i_le] at k1
          rw [i_eq, i_eq] at w
          have e0 : (0 : Int32).toInt = 0 := by decide
          have e1 : (1 : Int32).toInt = 1 := by decide
          omega)] at hX
        subst hX hY
        exact ⟨_, _, _, rfl, h, Or.inl ⟨rfl, rfl⟩, rfl⟩
  · rw [(x_hasRef ha hc p1 p2).2 q, e_b1, if_neg (fun k => k rfl)] at hX
    rw [(m_hasRef ha hm p1 p2).2 q, e_b1, if_neg (fun k => k rfl)] at hY
    subst hX hY
    exact ⟨_, _, _, rfl, h, Or.inl ⟨rfl, rfl⟩, rfl⟩
/-! writing: k signs stand in f -/
abbrev WS : Type := Nat × (Nat → Int32)
def wS (s : WS) (x : Int32) : WS := (s.1 + 1, upd s.2 s.1 x)
def wP (s : WS) (v : Nat) : WS := wS (wS s (nI (48 + v / 10))) (nI (48 + v % 10))
def wR (s : WS) (v : Nat) : WS := wP (wS (wS s (nI (48 + v / 1000))) (nI (114 + v / 100 % 10))) (v % 100)
def wE (s : WS) (F : Nat → Nat) : WS := if F 7 = 0 then s else wP (wS s 64) (F 7)
def wC (s : WS) (F : Nat → Nat) : WS := wE (if F 0 = 0 then (if F 4 = 0 then wR (wS (wS s (nI (65 + F 1))) (nI (65 + F 2))) (F 3) else wR (wS (wR (wS (wS s (nI (65 + F 1))) (nI (65 + F 2))) (F 3)) 61) (F 4)) else if F 0 = 1 then wS s (nI (65 + F 5)) else if F 0 = 2 then wS s 105 else wS (wS (wS s 97) (nI (48 + F 6))) (nI (65 + F 5))) F
theorem x_as {s : WS} (h : s.1 < 512) (x : Int32) : f_X2_addSign (nI s.1) s.2 x = some (nI (wS s x).1, (wS s x).2) := by
  unfold f_X2_addSign
  rw [if_pos (show nI s.1 < 512 from nI_lt (b := 512) h (by omega)), e_wrI _ _ _ h (by omega), e_nm, nI_1]
  rfl
theorem m_as {s : WS} (h : s.1 < 480) (x : Int32) : f_X7_out (nI s.1) s.2 x = some (nI (wS s x).1, (wS s x).2) := by
  unfold f_X7_out
  rw [e_wrI _ _ _ h (by omega), e_nm, nI_1]
  rfl
theorem ten_d {v : Nat} (h : v < 2 ^ 30) : nI v / 10 = nI (v / 10) := by rw [show (10 : Int32) = nI 10 from rfl, pk_div (by omega) (by omega) (by omega)]
theorem ten_r {v : Nat} (h : v < 2 ^ 30) : nI v - nI (v / 10) * 10 = nI (v % 10) := by rw [← ten_d h, show (10 : Int32) = nI 10 from rfl, pk_rem (by omega) (by omega) (by omega)]
theorem a48 (v : Nat) : (48 : Int32) + nI v = nI (48 + v) := nI_add 48 v
theorem a65 (v : Nat) : (65 : Int32) + nI v = nI (65 + v) := nI_add 65 v
theorem a114 (v : Nat) : (114 : Int32) + nI v = nI (114 + v) := nI_add 114 v
theorem x_ap {s : WS} (h : s.1 + 2 ≤ 512) {v : Nat} (hv : v < 10000) : f_X2_addPage (nI s.1) s.2 (nI v) = some (nI (wP s v).1, (wP s v).2) := by
  unfold f_X2_addPage
  rw [ten_d (by omega), ten_r (by omega), a48, a48, x_as (by omega), e_b2, x_as (by show s.1 + 1 < 512; omega), e_b2]
  rfl
theorem m_ap {s : WS} (h : s.1 + 2 ≤ 480) {v : Nat} (hv : v < 10000) : f_X7_outPage (nI s.1) s.2 (nI v) = some (nI (wP s v).1, (wP s v).2) := by
  unfold f_X7_outPage
  rw [ten_d (by omega), ten_r (by omega), a48, a48, m_as (by omega), e_b2, m_as (by show s.1 + 1 < 480; omega), e_b2]
  rfl
theorem th_d {v : Nat} (h : v < 2 ^ 30) : nI v / 1000 = nI (v / 1000) := by rw [show (1000 : Int32) = nI 1000 from rfl, pk_div (by omega) (by omega) (by omega)]
theorem hun_r {v : Nat} (h : v < 2 ^ 30) : nI v - nI (v / 100) * 100 = nI (v % 100) := by rw [← d100 h]; exact r100 h
theorem x_ar {s : WS} (h : s.1 + 4 ≤ 512) {v : Nat} (hv : rpOK v) : f_X2_addReport (nI s.1) s.2 (nI v) = some (nI (wR s v).1, (wR s v).2) := by
  have hb := rp_lt hv
  have hj : ∀ t : WS, t.1 + 3 ≤ 512 → ∀ x, j_X2_addReport_28 (nI v) x (nI t.1) t.2 = some (nI (wP (wS t x) (v % 100)).1, (wP (wS t x) (v % 100)).2) := by
    intro t ht x
    unfold j_X2_addReport_28
    rw [x_as (by omega), e_b2, r100 (by omega), x_ap (by show t.1 + 1 + 2 ≤ 512; omega) (by omega), e_b2]
  unfold f_X2_addReport
  rw [th_d (by omega), a48, x_as (by omega), e_b2, show f_X6_isOfSeries (nI v) 0 = _ from x_ser hv 0 (by omega), e_b1]
  unfold rpOK at hv
  unfold wR
  by_cases q : v / 100 % 10 = 0
  · rw [if_pos q, if_neg (by decide), hj _ (by show s.1 + 1 + 3 ≤ 512; omega), q]
    rfl
  · rw [if_neg q, if_pos rfl, hj _ (by show s.1 + 1 + 3 ≤ 512; omega), show v / 100 % 10 = 1 by omega]
    rfl
theorem m_ar {s : WS} (h : s.1 + 4 ≤ 480) {v : Nat} (hv : v < 10000) : f_X7_outReport (nI s.1) s.2 (nI v) = some (nI (wR s v).1, (wR s v).2) := by
  unfold f_X7_outReport
  rw [th_d (by omega), a48, m_as (by omega), e_b2, d100 (by omega), ten_d (by omega), ten_r (by omega), a114, m_as (by show s.1 + 1 < 480; omega), e_b2, hun_r (by omega), m_ap (by show s.1 + 1 + 1 + 2 ≤ 480; omega) (by omega), e_b2]
  rfl
theorem x_ae {s : WS} (h : s.1 + 3 ≤ 512) {F : Nat → Nat} (hv : vF F) : j_X2_addCite_95 (lN (en F)) (nI s.1) s.2 = some (nI (wE s F).1, (wE s F).2) := by
  have hb := vF_b hv
  unfold j_X2_addCite_95 wE
  rw [c_pin hv, e_b1]
  by_cases q : F 7 = 0
  · rw [if_neg (fun w => w (by rw [q]; rfl)), if_pos q]
  · rw [if_pos (nI_ne0 (by omega) (by omega)), if_neg q, x_as (by omega), e_b2, e_b1, x_ap (by show s.1 + 1 + 2 ≤ 512; omega) (by omega), e_b2]
theorem m_ae {s : WS} (h : s.1 + 3 ≤ 480) {F : Nat → Nat} (hv : vF F) (hbf : ∀ i, i < 8 → bf i = nI (F i)) : j_X7_outBrief_154 bf (nI s.1) s.2 = some (nI (wE s F).1, (wE s F).2) := by
  have hb := vF_b hv
  unfold j_X7_outBrief_154 wE
  rw [show (7 : Int32) = nI 7 from rfl, b_rd hbf (by omega)]
  by_cases q : F 7 = 0
  · rw [if_pos (by rw [q]; rfl), if_pos q]
  · rw [if_neg (nI_ne0 (by omega) (by omega)), if_neg q, m_as (by omega), e_b2, b_rd hbf (by omega), m_ap (by show s.1 + 1 + 2 ≤ 480; omega) (by omega), e_b2]
theorem x_ac {s : WS} (h : s.1 + 14 ≤ 512) {F : Nat → Nat} (hv : vF F) : f_X2_addCite (nI s.1) s.2 (lN (en F)) = some (nI (wC s F).1, (wC s F).2) := by
  have hb := vF_b hv
  unfold f_X2_addCite wC
  rw [c_form hv, e_b1]
  have hv2 := hv
  unfold vF at hv2
  by_cases q0 : F 0 = 0
  · have w : F 1 < 6 ∧ F 2 < 6 ∧ rpOK (F 3) ∧ (F 4 = 0 ∨ (rpOK (F 4) ∧ F 4 / 100 % 10 ≠ F 3 / 100 % 10)) ∧ F 5 = 0 ∧ F 6 = 0 := vF_fu hv q0
    rw [if_pos (by rw [q0]; rfl), if_pos q0]
    unfold f_X2_addFull
    rw [c_first hv, e_b1, w.2.2.2.2.1, Nat.add_zero (F 1), a65, x_as (by omega), e_b2, c_second hv, e_b1, a65, x_as (by show s.1 + 1 < 512; omega), e_b2, c_report hv, e_b1, x_ar (by show s.1 + 1 + 1 + 4 ≤ 512; omega) w.2.2.1, e_b2, c_other hv, e_b1]
    by_cases q4 : F 4 = 0
    · rw [if_neg (fun w => w (by rw [q4]; rfl)), e_b2, if_pos q4, x_ae (by show s.1 + 1 + 1 + 1 + 1 + 1 + 1 + 3 ≤ 512; omega) hv]
    · have w4 : rpOK (F 4) := by
        rcases w.2.2.2.1 with k | k
        · exact absurd k q4
        · exact k.1
      rw [if_pos (nI_ne0 (by omega) (by omega)), x_as (by show s.1 + 1 + 1 + 1 + 1 + 1 + 1 < 512; omega), e_b2, e_b1, x_ar (by show s.1 + 1 + 1 + 1 + 1 + 1 + 1 + 1 + 4 ≤ 512; omega) w4, e_b2, e_b2, if_neg q4, x_ae (by show s.1 + 1 + 1 + 1 + 1 + 1 + 1 + 1 + 1 + 1 + 1 + 1 + 3 ≤ 512; omega) hv]
  · rw [if_neg (nI_ne0 (by omega) (by omega)), if_neg q0]
    have w1 : F 1 = 0 := by omega
    by_cases q2 : F 0 = 2
    · rw [if_pos (by rw [q2]; rfl), if_neg (show ¬ F 0 = 1 by omega), if_pos q2, x_as (by omega), e_b2, x_ae (by show s.1 + 1 + 3 ≤ 512; omega) hv]
    · rw [if_neg (show ¬ nI (F 0) = 2 from fun k => q2 ((nI_eq (b := 2) (by omega) (by omega)).mp k)), if_neg q2]
      by_cases q3 : F 0 = 3
      · rw [if_pos (by rw [q3]; rfl), if_neg (show ¬ F 0 = 1 by omega), x_as (by omega), e_b2, c_number hv, e_b1, a48, x_as (by show s.1 + 1 < 512; omega), e_b2, c_first hv, e_b1, w1, Nat.zero_add (F 5), a65, x_as (by show s.1 + 1 + 1 < 512; omega), e_b2, x_ae (by show s.1 + 1 + 1 + 1 + 3 ≤ 512; omega) hv]
      · rw [if_neg (show ¬ nI (F 0) = 3 from fun k => q3 ((nI_eq (b := 3) (by omega) (by omega)).mp k)), if_pos (show F 0 = 1 by omega), c_first hv, e_b1, w1, Nat.zero_add (F 5), a65, x_as (by omega), e_b2, x_ae (by show s.1 + 1 + 3 ≤ 512; omega) hv]
theorem m_ac {s : WS} (h : s.1 + 14 ≤ 480) {F : Nat → Nat} (hv : vF F) (hbf : ∀ i, i < 8 → bf i = nI (F i)) : f_X7_outBrief (nI s.1) bf s.2 = some (nI (wC s F).1, (wC s F).2) := by
  have hb := vF_b hv
  unfold f_X7_outBrief wC
  rw [show ∀ k, pn_rd (β := Int32 × (Nat → Int32)) 8 bf 0 k = k (nI (F 0)) from fun k => b_rd hbf (i := 0) (by omega) k]
  have hv2 := hv
  unfold vF at hv2
  by_cases q0 : F 0 = 0
  · have w : F 1 < 6 ∧ F 2 < 6 ∧ rpOK (F 3) ∧ (F 4 = 0 ∨ (rpOK (F 4) ∧ F 4 / 100 % 10 ≠ F 3 / 100 % 10)) ∧ F 5 = 0 ∧ F 6 = 0 := vF_fu hv q0
    rw [if_pos (by rw [q0]; rfl), if_pos q0, show ∀ k, pn_rd (β := Int32 × (Nat → Int32)) 8 bf 1 k = k (nI (F 1)) from fun k => b_rd hbf (i := 1) (by omega) k, a65, m_as (by omega), e_b2,
      show ∀ k, pn_rd (β := Int32 × (Nat → Int32)) 8 bf 2 k = k (nI (F 2)) from fun k => b_rd hbf (i := 2) (by omega) k, a65, m_as (by show s.1 + 1 < 480; omega), e_b2,
      show ∀ k, pn_rd (β := Int32 × (Nat → Int32)) 8 bf 3 k = k (nI (F 3)) from fun k => b_rd hbf (i := 3) (by omega) k, m_ar (by show s.1 + 1 + 1 + 4 ≤ 480; omega) (by omega), e_b2,
      show ∀ k, pn_rd (β := Int32 × (Nat → Int32)) 8 bf 4 k = k (nI (F 4)) from fun k => b_rd hbf (i := 4) (by omega) k]
    by_cases q4 : F 4 = 0
    · rw [if_pos (by rw [q4]; rfl), if_pos q4, m_ae (by show s.1 + 1 + 1 + 1 + 1 + 1 + 1 + 3 ≤ 480; omega) hv hbf]
    · rw [if_neg (nI_ne0 (by omega) (by omega)), m_as (by show s.1 + 1 + 1 + 1 + 1 + 1 + 1 < 480; omega), e_b2, show ∀ k, pn_rd (β := Int32 × (Nat → Int32)) 8 bf 4 k = k (nI (F 4)) from fun k => b_rd hbf (i := 4) (by omega) k,
        m_ar (by show s.1 + 1 + 1 + 1 + 1 + 1 + 1 + 1 + 4 ≤ 480; omega) (by omega), e_b2, if_neg q4, m_ae (by show s.1 + 1 + 1 + 1 + 1 + 1 + 1 + 1 + 1 + 1 + 1 + 1 + 3 ≤ 480; omega) hv hbf]
  · rw [if_neg (nI_ne0 (by omega) (by omega)), if_neg q0]
    by_cases q1 : F 0 = 1
    · rw [if_pos (by rw [q1]; rfl), if_pos q1, show ∀ k, pn_rd (β := Int32 × (Nat → Int32)) 8 bf 5 k = k (nI (F 5)) from fun k => b_rd hbf (i := 5) (by omega) k, a65, m_as (by omega), e_b2, m_ae (by show s.1 + 1 + 3 ≤ 480; omega) hv hbf]
    · rw [if_neg (show ¬ nI (F 0) = 1 from fun k => q1 ((nI_eq (b := 1) (by omega) (by omega)).mp k)), if_neg q1]
      by_cases q2 : F 0 = 2
      · rw [if_pos (by rw [q2]; rfl), if_pos q2, m_as (by omega), e_b2, m_ae (by show s.1 + 1 + 3 ≤ 480; omega) hv hbf]
      · rw [if_neg (show ¬ nI (F 0) = 2 from fun k => q2 ((nI_eq (b := 2) (by omega) (by omega)).mp k)), if_neg q2, m_as (by omega), e_b2, show ∀ k, pn_rd (β := Int32 × (Nat → Int32)) 8 bf 6 k = k (nI (F 6)) from fun k => b_rd hbf (i := 6) (by omega) k, a48, m_as (by show s.1 + 1 < 480; omega), e_b2,
          show ∀ k, pn_rd (β := Int32 × (Nat → Int32)) 8 bf 5 k = k (nI (F 5)) from fun k => b_rd hbf (i := 5) (by omega) k, a65, m_as (by show s.1 + 1 + 1 < 480; omega), e_b2, m_ae (by show s.1 + 1 + 1 + 1 + 3 ≤ 480; omega) hv hbf]
end
