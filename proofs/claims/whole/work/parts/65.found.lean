/-! what a Study of the class holds, as one thing; the call found -/
section
variable {n : Nat} {z : Nat → Nat} {G : Nat → Nat → Nat} {p sz : Nat → Int32} {ci : Nat → Int64} {L N : Nat} {ver lv sv pr cs0 ct av dd fl c1 c0 l0 : Int32} {ca fs fb mb nb ra lk cf fi rn cf0 fi0 lb0 rn0 : Nat → Int32}
abbrev SV : Type := Int32 × Int32 × Int32 × Int32 × Int32 × Int32 × Int32 × Int32 × (Nat → Int32) × (Nat → Int32) × (Nat → Int32) × (Nat → Int32) × (Nat → Int32) × (Nat → Int32) × (Nat → Int32)
def sK (n : Nat) (z : Nat → Nat) (G : Nat → Nat → Nat) (ver : Int32) (s : SV) : Prop := (s.1 = ver → dL n z G s.2.2.2.1 s.2.2.2.2.2.2.2.2.2.2.2.1) ∧ (s.2.1 = ver → s.1 = ver ∧ dF n z G s.2.2.2.2.1 s.2.2.2.2.2.2.1 s.2.2.2.2.2.2.2.1 s.2.2.2.2.2.2.2.2.1 s.2.2.2.2.2.2.2.2.2.1 s.2.2.2.2.2.2.2.2.2.2.1 s.2.2.2.2.2.2.2.2.2.2.2.2.1 s.2.2.2.2.2.2.2.2.2.2.2.2.2.1 s.2.2.2.2.2.2.2.2.2.2.2.2.2.2)
def vI (v : Nat) (x : Int32) : Prop := x = -1 ∨ ∃ k, k ≤ v ∧ x = nI k
def vK (v : Nat) (s : SV) : Prop := vI v s.1 ∧ vI v s.2.1
theorem vI_up {v w : Nat} {x : Int32} (h : vI v x) (hw : v ≤ w) : vI w x := by
  rcases h with h | ⟨k, h1, h2⟩
  · exact Or.inl h
  · exact Or.inr ⟨k, by omega, h2⟩
theorem vI_s (v : Nat) : vI v (nI v) := Or.inr ⟨v, Nat.le_refl _, rfl⟩
theorem m1_nI {k : Nat} (hk : k < 2 ^ 31) : ¬ (-1 : Int32) = nI k := fun w => nI_pos hk (by rw [← w]; decide)
theorem vI_ne {v w : Nat} {x : Int32} (h : vI v x) (hw : v < w) (h31 : w < 2 ^ 31) : ¬ x = nI w := by
  rcases h with rfl | ⟨k, h1, rfl⟩
  · exact m1_nI h31
  · intro q
    have := (nI_eq (by omega) h31).mp q
    omega
theorem vK_up {v w : Nat} {s : SV} (h : vK v s) (hw : v ≤ w) : vK w s := ⟨vI_up h.1 hw, vI_up h.2 hw⟩
theorem sK_new {v w : Nat} {s : SV} (h : vK v s) (hw : v < w) (h31 : w < 2 ^ 31) : sK n z G (nI w) s := ⟨fun q => absurd q (vI_ne h.1 hw h31), fun q => absurd q (vI_ne h.2 hw h31)⟩
theorem x_studyF (ha : aP n z G) (hc : cP n z G (nI n) sz ci) (hN : 2000 ≤ N) (h : sK n z G ver (lv, sv, pr, fl, cs0, ct, av, dd, ca, fs, fb, lk, mb, nb, ra)) :
    ∃ pr2 fl2 cs2 ct2 av2 dd2 ca2 fs2 fb2 lk2 mb2 nb2 ra2, f_X4_study N lv sv pr fl cs0 ct av dd ca fs fb lk mb nb (nI n) ver ci sz ra = some (ver, ver, pr2, fl2, cs2, ct2, av2, dd2, ca2, fs2, fb2, lk2, mb2, nb2, ra2) ∧ dL n z G fl2 lk2 ∧ dF n z G cs2 av2 dd2 ca2 fs2 fb2 mb2 nb2 ra2 := by
  unfold f_X4_study
  rw [show f_X1_version ver = some ver from rfl, e_b1]
  by_cases e : sv = ver
  · rw [if_neg (fun w => w e)]
    obtain ⟨e2, h2⟩ := h.2 e
    have e2 : lv = ver := e2
    exact ⟨pr, fl, cs0, ct, av, dd, ca, fs, fb, lk, mb, nb, ra, by rw [e, e2], h.1 e2, h2⟩
  · rw [if_pos e]
    obtain ⟨f2, cs2, ct2, av2, dd2, ca2, fs2, fb2, lk2, mb2, nb2, ra2, a1, a2, a3⟩ := x_partC ha hc (P := 255) (by omega) hN h.1 sv pr cs0 ct av dd ca fs fb mb nb ra
    refine ⟨nI (255 % 2 ^ n), f2, cs2, ct2, av2, dd2, ca2, fs2, fb2, lk2, mb2, nb2, ra2, ?_, a3, dT_dF ha a2⟩
    rw [show f_X4_studyPart N lv sv pr fl cs0 ct av dd ca fs fb lk mb nb (nI n) ver ci sz ra (255 : Int32) = _ from a1, e_b15, e_b1]
theorem sK_st {pr2 fl2 cs2 ct2 av2 dd2 : Int32} {ca2 fs2 fb2 lk2 mb2 nb2 ra2 : Nat → Int32} (h1 : dL n z G fl2 lk2) (h2 : dF n z G cs2 av2 dd2 ca2 fs2 fb2 mb2 nb2 ra2) : sK n z G ver (ver, ver, pr2, fl2, cs2, ct2, av2, dd2, ca2, fs2, fb2, lk2, mb2, nb2, ra2) := ⟨fun _ => h1, fun _ => ⟨rfl, h2⟩⟩
theorem vK_st {v : Nat} {pr2 fl2 cs2 ct2 av2 dd2 : Int32} {ca2 fs2 fb2 lk2 mb2 nb2 ra2 : Nat → Int32} : vK v (nI v, nI v, pr2, fl2, cs2, ct2, av2, dd2, ca2, fs2, fb2, lk2, mb2, nb2, ra2) := ⟨vI_s v, vI_s v⟩
/-- is there a reference of this place: both ask alike -/
def pl (n : Nat) (z : Nat → Nat) (x y : Int32) : Prop := 0 ≤ x.toInt ∧ x.toInt < n ∧ 0 ≤ y.toInt ∧ y.toInt < z x.toNatClampNeg
theorem pl_of (h8 : n ≤ 8) {x y : Int32} (h : pl n z x y) (hz : ∀ k, k < n → z k ≤ 4) : ∃ a b, a < n ∧ b < z a ∧ x = nI a ∧ y = nI b ∧ th n z (4 * a + b) = true := by
  obtain ⟨h1, h2, h3, h4⟩ := h
  obtain ⟨a, ha, rfl⟩ := i_of h1 h2
  rw [nI_clamp (by omega)] at h4
  have hza := hz a ha
  obtain ⟨b, hb, rfl⟩ := i_of h3 h4
  refine ⟨a, b, ha, hb, rfl, rfl, ?_⟩
  unfold th
  rw [show (4 * a + b) / 4 = a by omega, show (4 * a + b) % 4 = b by omega]
  simp [ha, hb]
theorem x_sizeI (ha : aP n z G) (hc : cP n z G (nI n) sz ci) (x : Int32) : f_X1_size (nI n) sz x = some (nI (if 0 ≤ x.toInt ∧ x.toInt < n then z x.toNatClampNeg else 0)) := by
  have h8 := ha.1
  by_cases q : 0 ≤ x.toInt ∧ x.toInt < n
  · obtain ⟨k, hk, rfl⟩ := i_of q.1 q.2
    rw [if_pos q, x_size hk h8, (hc.2 k hk).1, nI_clamp (by omega)]
  · rw [if_neg q]
    unfold f_X1_size
    by_cases q1 : x < 0
    · rw [if_pos q1]; rfl
    · rw [if_neg q1, if_pos]
      · rfl
      · rw [i_lt, Int32.toInt_zero] at q1
        rw [i_le, nI_toInt (by omega)]
        omega
theorem x_hasRef (ha : aP n z G) (hc : cP n z G (nI n) sz ci) (x y : Int32) : (pl n z x y → f_X1_hasReference (nI n) sz x y = some 1) ∧ (¬ pl n z x y → f_X1_hasReference (nI n) sz x y = some 0) := by
  have h8 := ha.1
  unfold f_X1_hasReference
  rw [x_sizeI ha hc]
  by_cases q : 0 ≤ x.toInt ∧ x.toInt < n
  · rw [if_pos q, e_b1]
    obtain ⟨k, hk, rfl⟩ := i_of q.1 q.2
    have hz := (ha.2 k hk).2.1
    rw [nI_clamp (by omega)]
    constructor
    · rintro ⟨-, -, h3, h4⟩
      rw [nI_clamp (by omega)] at h4
      obtain ⟨b, hb, rfl⟩ := i_of h3 h4
      rw [if_neg (nI_pos (by omega)), if_neg (nI_ge hb (by omega))]
    · intro w
      by_cases q1 : y < 0
      · rw [if_pos q1]
      · rw [if_neg q1, if_pos]
        rw [i_lt, Int32.toInt_zero] at q1
        rw [i_le, nI_toInt (by omega)]
        refine Int.not_lt.mp (fun w2 => w ⟨q.1, q.2, by omega, ?_⟩)
        rw [nI_clamp (by omega)]; exact w2
  · rw [if_neg q, e_b1]
    refine ⟨fun w => absurd ⟨w.1, w.2.1⟩ q, fun _ => ?_⟩
    by_cases q1 : y < 0
    · rw [if_pos q1]
    · rw [if_neg q1, if_pos]
      rw [i_lt, Int32.toInt_zero] at q1
      rw [i_le, nI_toInt (by omega)]
      omega
theorem m_hasRef (ha : aP n z G) (hm : mP n z G p) (x y : Int32) : (pl n z x y → f_X7_isThere p x y = some 1) ∧ (¬ pl n z x y → f_X7_isThere p x y = some 0) := by
  rw [m_thereI ha hm]
  unfold pl
  exact ⟨fun w => by rw [if_pos w], fun w => by rw [if_neg w]⟩
theorem x_in02 (x : Int32) : (x = 0 ∨ x = 1 ∨ x = 2 → f_X7_in x.toInt64 0 2 = some 1) ∧ (¬ (x = 0 ∨ x = 1 ∨ x = 2) → f_X7_in x.toInt64 0 2 = some 0) := by
  rw [show f_X7_in x.toInt64 0 2 = _ from x_in32 x 0 2]
  constructor
  · rintro (rfl | rfl | rfl) <;> rfl
  · intro w
    rw [if_neg]
    rintro ⟨w1, w2⟩
    rw [i_le] at w1 w2
    have e2 : (2 : Int32).toInt = 2 := by decide
    have e0 : (0 : Int32).toInt = 0 := by decide
    have e1 : (1 : Int32).toInt = 1 := by decide
    rw [i_eq, i_eq, i_eq] at w
    omega
theorem x_in01 (x : Int32) : (x = 0 ∨ x = 1 → f_X7_in x.toInt64 0 1 = some 1) ∧ (¬ (x = 0 ∨ x = 1) → f_X7_in x.toInt64 0 1 = some 0) := by
  rw [show f_X7_in x.toInt64 0 1 = _ from x_in32 x 0 1]
  constructor
  · rintro (rfl | rfl) <;> rfl
  · intro w
    rw [if_neg]
    rintro ⟨w1, w2⟩
    rw [i_le] at w1 w2
    have e0 : (0 : Int32).toInt = 0 := by decide
    have e1 : (1 : Int32).toInt = 1 := by decide
    rw [i_eq, i_eq] at w
    omega
theorem oJ_oI {x : Option Nat} (hx : ∀ c, x = some c → c < 32) : (0 ≤ oJ x → oJ x = oI x) ∧ (¬ 0 ≤ oJ x → oI x = -9) := by
  cases x with
  | none => exact ⟨fun w => absurd w (by decide), fun _ => rfl⟩
  | some c => exact ⟨fun _ => rfl, fun w => absurd (nI_pos' (by have := hx c rfl; omega)) w⟩
theorem x_reasonOf {r : Nat} (hr : r < 32) : f_X4_reasonOf ra (nI r) = some (ra r) := by
  unfold f_X4_reasonOf
  rw [if_neg (nI_pos (by omega)), if_neg (show ¬ (32 : Int32) ≤ nI r from nI_ge (b := 32) hr (by omega)), e_rd _ _ hr (by omega)]
theorem four_add (a b : Nat) : ((4 : Int32) * nI a) + nI b = nI (4 * a + b) := by rw [show (4 : Int32) = nI 4 from rfl, pk_mul, nI_add]
theorem s_found (ha : aP n z G) (hc : cP n z G (nI n) sz ci) (hm : mP n z G p) (hN : 2000 ≤ N) (h : sK n z G ver (lv, sv, pr, fl, cs0, ct, av, dd, ca, fs, fb, lk, mb, nb, ra)) (t0 p1 p2 p3 : Int32) :
    ∃ a s' m', f_X6_found N lv sv pr fl cs0 ct av dd ca fs fb lk mb nb (nI n) ver ci sz ra p1 p2 p3 = some (a, s') ∧ sK n z G ver s' ∧ ((s'.1 = lv ∧ s'.2.1 = sv) ∨ (s'.1 = ver ∧ s'.2.1 = ver)) ∧ f_X7_found N t0 c0 l0 cf0 fi0 lb0 p rn0 p1 p2 p3 = some (a, m') := by
  generalize hX : f_X6_found _ _ _ _ _ _ _ _ _ _ _ _ _ _ _ _ _ _ _ _ _ _ _ = X
  generalize hY : f_X7_found _ _ _ _ _ _ _ _ _ _ _ _ = Y
  unfold f_X6_found at hX
  unfold f_X7_found at hY
  by_cases q : pl n z p1 p2
  · obtain ⟨pr2, fl2, cs2, ct2, av2, dd2, ca2, fs2, fb2, lk2, mb2, nb2, ra2, e1, e2, e3⟩ := x_studyF ha hc hN h
    rw [(x_hasRef ha hc p1 p2).1 q, e_b1, if_pos (by decide), e1, e_b15] at hX
    rw [(m_hasRef ha hm p1 p2).1 q, e_b1, if_pos (by decide)] at hY
    obtain ⟨a, b, h1, h2, rfl, rfl, h3⟩ := pl_of ha.1 q (fun k hk => (ha.2 k hk).2.1)
    have r32 := th_lt h3 ha.1
    rw [x_slot, e_b1] at hX
    by_cases w : p3 = 0 ∨ p3 = 1 ∨ p3 = 2
    · obtain ⟨c1, l1, cf, fi, lb, rn, f1, f2⟩ := m_FA ha hm hN c0 l0 cf0 fi0 lb0 rn0
      rw [(x_in02 p3).1 w, e_b1, if_pos (by decide), f1, e_b6, four_add, e_nm] at hY
      rcases w with rfl | rfl | rfl
      · rw [if_neg (fun w => w rfl), e_rd _ _ r32 (by omega), (f2.2.2 _ r32).1] at hY
        rw [if_pos rfl, x_caseOf r32, e_b1, (e3.2.2.2.2.1 _ r32 h3).1] at hX
        by_cases k : 0 ≤ oJ (FF n z G (4 * a + b))
        · rw [if_pos k, e_b1, (oJ_oI (FF_32 ha _)).1 k] at hX
          subst hX hY
          exact ⟨_, _, _, rfl, sK_st e2 e3, Or.inr ⟨rfl, rfl⟩, rfl⟩
        · rw [if_neg k, ← (oJ_oI (FF_32 ha _)).2 k] at hX
          subst hX hY
          exact ⟨_, _, _, rfl, sK_st e2 e3, Or.inr ⟨rfl, rfl⟩, rfl⟩
      · rw [if_neg (by decide), if_pos rfl, x_reasonOf r32, e_b1, (e3.2.2.2.2.1 _ r32 h3).2] at hX
        rw [if_pos (by decide), if_neg (fun w => w rfl), e_rd _ _ r32 (by omega), (f2.2.2 _ r32).2] at hY
        subst hX hY
        exact ⟨_, _, _, rfl, sK_st e2 e3, Or.inr ⟨rfl, rfl⟩, rfl⟩
      · rw [if_neg (by decide), if_neg (by decide), if_pos rfl, x_pinSt ha hc e2.1 e3 hN h3, e_b1] at hX
        rw [if_pos (by decide), if_pos (by decide), m_pinSt ha hm f2 hN h3, e_b1] at hY
        subst hX hY
        exact ⟨_, _, _, rfl, sK_st e2 e3, Or.inr ⟨rfl, rfl⟩, rfl⟩
    · rw [if_neg (fun k => w (Or.inl k)), if_neg (fun k => w (Or.inr (Or.inl k))), if_neg (fun k => w (Or.inr (Or.inr k)))] at hX
      rw [(x_in02 p3).2 w, e_b1, if_neg (fun k => k rfl)] at hY
      subst hX hY
      exact ⟨_, _, _, rfl, sK_st e2 e3, Or.inr ⟨rfl, rfl⟩, rfl⟩
  · rw [(x_hasRef ha hc p1 p2).2 q, e_b1, if_neg (fun k => k rfl)] at hX
    rw [(m_hasRef ha hm p1 p2).2 q, e_b1, if_neg (fun k => k rfl)] at hY
    subst hX hY
    exact ⟨_, _, _, rfl, h, Or.inl ⟨rfl, rfl⟩, rfl⟩
end
