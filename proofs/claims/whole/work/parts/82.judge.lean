/-! the call judge -/
section
variable {p sz : Nat → Int32} {ci : Nat → Int64} {N B : Nat} {nt ver lv sv pr cs0 ct av dd fl c0 l0 : Int32} {ca fs fb mb nb ra lk bf cf0 fi0 lb0 rn0 rm tr wk : Nat → Int32}
theorem lgc_lt (a b : Int64) : lg_cmp a b < 0 ↔ a < b := by
  unfold lg_cmp
  by_cases h : b < a
  · simp only [h, if_true]
    constructor
    · intro q; exact absurd q (by decide)
    · intro q; rw [fa_lt64] at h q; omega
  · by_cases h2 : a = b
    · subst h2; simp [h]
    · simp only [h, h2, if_false]
      constructor
      · intro _; rw [fa_lt64] at h ⊢; rw [fa_eq64] at h2; omega
      · intro _; decide
theorem lgc_eq (a b : Int64) : lg_cmp a b = 0 ↔ a = b := by
  unfold lg_cmp
  by_cases h : b < a
  · simp only [h, if_true]
    constructor
    · intro q; exact absurd q (by decide)
    · intro q; subst q; rw [fa_lt64] at h; omega
  · by_cases h2 : a = b
    · subst h2; simp [h]
    · simp only [h, h2, if_false]
      constructor
      · intro q; exact absurd q (by decide)
      · intro q; exact absurd q (by simp)
theorem tp {k : Nat} (h : k ≤ 4) : 1 ≤ 10000 ^ k ∧ 10000 ^ k ≤ 10000000000000000 := by
  rcases (show k = 0 ∨ k = 1 ∨ k = 2 ∨ k = 3 ∨ k = 4 by omega) with rfl | rfl | rfl | rfl | rfl <;> decide
theorem x_acts (hN : 2000 ≤ N) {R k : Nat} (hR : R < 2 ^ 63) (hk : k ≤ 4) : f_X6_actsFrom N (lN R) (nI k) = some (lN (R / 10000 ^ k)) := by
  have main := lp_up (fun m i (s : Int64) => lp_X6_actsFrom_5 (nI k) m s (nI i)) k (fun i s => s = lN (R / 10000 ^ i)) (fun s => s = lN (R / 10000 ^ k))
    (fun m s w => ⟨s, by
      simp only [lp_X6_actsFrom_5]
      rw [if_pos (nI_le (Nat.le_refl _) (by omega))], w⟩)
    (fun m i s hi w => by
      refine Or.inr ⟨lN (R / 10000 ^ (i + 1)), rfl, ?_⟩
      have hlt : R / 10000 ^ i < 2 ^ 63 := Nat.lt_of_le_of_lt (Nat.div_le_self _ _) hR
      simp only [lp_X6_actsFrom_5]
      rw [if_neg (nI_ge hi (by omega)), w, show (10000 : Int64) = lN 10000 from rfl, pk_lDiv hlt (by omega) (by omega), Nat.div_div_eq_div_mul, ← Nat.pow_succ, e_nm, e_nm, nI_1])
    N 0 (lN R) (by omega) (by omega) (by rw [Nat.pow_zero, Nat.div_one])
  obtain ⟨s, k1, k2⟩ := main
  unfold f_X6_actsFrom
  rw [show lp_X6_actsFrom_5 (nI k) N (lN R) 0 = some s from k1, e_b1, e_u1, k2]
theorem m_lpow (hN : 2000 ≤ N) {k : Nat} (hk : k ≤ 4) : f_X7_longPower N 10000 (nI k) = some (lN (10000 ^ k)) := by
  have main := lp_up (fun m i (s : Int64) => lp_X7_longPower_5 10000 (nI k) m s (nI i)) k (fun i s => s = lN (10000 ^ i)) (fun s => s = lN (10000 ^ k))
    (fun m s w => ⟨s, by
      simp only [lp_X7_longPower_5]
      rw [if_pos (nI_le (Nat.le_refl _) (by omega))], w⟩)
    (fun m i s hi w => by
      refine Or.inr ⟨lN (10000 ^ (i + 1)), rfl, ?_⟩
      simp only [lp_X7_longPower_5]
      rw [if_neg (nI_ge hi (by omega)), w, show (10000 : Int64) = lN 10000 from rfl, lN_mul, ← Nat.pow_succ, e_nm, e_nm, nI_1])
    N 0 (lN 1) (by omega) (by omega) rfl
  obtain ⟨s, k1, k2⟩ := main
  unfold f_X7_longPower
  rw [show lp_X7_longPower_5 10000 (nI k) N 1 0 = some s from k1, e_b1, e_u1, k2]
theorem dgt {R P : Nat} (hR : R < 2 ^ 63) : (lN (R / P) - lN (R / P) / 10000 * 10000).toInt32 = nI (R / P % 10000) := by
  have hlt : R / P < 2 ^ 63 := Nat.lt_of_le_of_lt (Nat.div_le_self _ _) hR
  rw [show (10000 : Int64) = lN 10000 from rfl, pk_lRem hlt (by omega) (by omega), lN_i]
set_option maxHeartbeats 1000000 in
theorem jd_loop (hB : B < 2 ^ 29) (hN : 10000 ≤ N) {R m : Nat} (hR : R < 2 ^ 63) (hm4 : m ≤ 4) : ∀ (c M1 M2 i : Nat) (lv sv pr fl cs0 ct av dd : Int32) (ca fs fb lk mb nb : Nat → Int32) (nt ver : Int32) (ci : Nat → Int64) (sz ra : Nat → Int32) (c0 l0 : Int32) (bf cf fi lb rn rm tr wk : Nat → Int32), i + c = m → c < M1 → c < M2 →
    rN (B + i) nt ver ci sz (lv, sv, pr, fl, cs0, ct, av, dd, ca, fs, fb, lk, mb, nb, ra) (-1) e0 e0 tr →
    (∃ (x lv' sv' pr' fl' cs' ct' av' dd' : Int32) (ca' fs' fb' lk' mb' nb' : Nat → Int32) (nt' ver' : Int32) (ci' : Nat → Int64) (sz' ra' : Nat → Int32) (c0' l0' : Int32) (bf' cf' fi' lb' rn' rm' tr' wk' : Nat → Int32),
      lp_X6_judge_49 N (nI m) (lN R) M1 (nI i) lv sv pr fl cs0 ct av dd ca fs fb lk mb nb nt ver ci sz ra = some (.inl (x, lv', sv', pr', fl', cs', ct', av', dd', ca', fs', fb', lk', mb', nb', nt', ver', ci', sz', ra')) ∧
      lp_X7_judge_51 N (nI m) (lN R) M2 (nI i) c0 l0 bf cf fi lb rn rm tr wk = some (.inl (x, c0', l0', bf', cf', fi', lb', rn', rm', tr', wk')) ∧
      rN (B + 4) nt' ver' ci' sz' (lv', sv', pr', fl', cs', ct', av', dd', ca', fs', fb', lk', mb', nb', ra') (-1) e0 e0 tr') ∨
    (∃ (lv' sv' pr' fl' cs' ct' av' dd' : Int32) (ca' fs' fb' lk' mb' nb' : Nat → Int32) (nt' ver' : Int32) (ci' : Nat → Int64) (sz' ra' : Nat → Int32) (c0' l0' : Int32) (bf' cf' fi' lb' rn' rm' tr' wk' : Nat → Int32),
      lp_X6_judge_49 N (nI m) (lN R) M1 (nI i) lv sv pr fl cs0 ct av dd ca fs fb lk mb nb nt ver ci sz ra = some (.inr (lv', sv', pr', fl', cs', ct', av', dd', ca', fs', fb', lk', mb', nb', nt', ver', ci', sz', ra')) ∧
      lp_X7_judge_51 N (nI m) (lN R) M2 (nI i) c0 l0 bf cf fi lb rn rm tr wk = some (.inr (c0', l0', bf', cf', fi', lb', rn', rm', tr', wk')) ∧
      rN (B + 4) nt' ver' ci' sz' (lv', sv', pr', fl', cs', ct', av', dd', ca', fs', fb', lk', mb', nb', ra') (-1) e0 e0 tr') := by
  intro c
  induction c with
  | zero =>
    intro M1 M2 i lv sv pr fl cs0 ct av dd ca fs fb lk mb nb nt ver ci sz ra c0 l0 bf cf fi lb rn rm tr wk hi h1 h2 hn
    obtain ⟨m1, rfl⟩ : ∃ m, M1 = m + 1 := ⟨M1 - 1, by omega⟩
    obtain ⟨m2, rfl⟩ : ∃ m, M2 = m + 1 := ⟨M2 - 1, by omega⟩
    refine Or.inr ⟨lv, sv, pr, fl, cs0, ct, av, dd, ca, fs, fb, lk, mb, nb, nt, ver, ci, sz, ra, c0, l0, bf, cf, fi, lb, rn, rm, tr, wk, ?_, ?_, rN_up hn (by omega)⟩
    · simp only [lp_X6_judge_49]
      rw [if_pos (nI_le (by omega) (by omega))]
    · simp only [lp_X7_judge_51]
      rw [if_pos (nI_le (by omega) (by omega))]
  | succ c ih =>
    intro M1 M2 i lv sv pr fl cs0 ct av dd ca fs fb lk mb nb nt ver ci sz ra c0 l0 bf cf fi lb rn rm tr wk hi h1 h2 hn
    obtain ⟨m1, rfl⟩ : ∃ m, M1 = m + 1 := ⟨M1 - 1, by omega⟩
    obtain ⟨m2, rfl⟩ : ∃ m, M2 = m + 1 := ⟨M2 - 1, by omega⟩
    have ek : (nI m - 1) - nI i = nI c := by
      rw [n_m1 (by omega), pk_sub (by omega), show m - 1 - i = c by omega]
    have htp := tp (k := c) (by omega)
    obtain ⟨b, lv', sv', pr', fl', cs', ct', av', dd', ca', fs', fb', lk', mb', nb', nt', ver', ci', sz', ra', c0', l0', bf', cf', fi', lb', rn', rm', tr', wk', g1, g2, g3⟩ := s_does (c0 := c0) (l0 := l0) (bf := bf) (cf0 := cf) (fi0 := fi) (lb0 := lb) (rn0 := rn) (rm := rm) (wk := wk) hn (by omega) hN (d := R / 10000 ^ c % 10000) (Nat.mod_lt _ (by omega))
    have hX : ∀ Z, lp_X6_judge_49 N (nI m) (lN R) (m1 + 1) (nI i) lv sv pr fl cs0 ct av dd ca fs fb lk mb nb nt ver ci sz ra = Z ↔ (if ¬ b1 b = 0 then lp_X6_judge_49 N (nI m) (lN R) m1 (nI (i + 1)) lv' sv' pr' fl' cs' ct' av' dd' ca' fs' fb' lk' mb' nb' nt' ver' ci' sz' ra' else some (.inl (nI i, lv', sv', pr', fl', cs', ct', av', dd', ca', fs', fb', lk', mb', nb', nt', ver', ci', sz', ra'))) = Z := by
      intro Z
      simp only [lp_X6_judge_49]
      rw [if_neg (nI_ge (show i < m by omega) (by omega)), ek, x_acts (by omega) hR (by omega), e_b1, dgt hR, e_nm, g1, e_b20, nI_1, e_nm]
    have hY : ∀ Z, lp_X7_judge_51 N (nI m) (lN R) (m2 + 1) (nI i) c0 l0 bf cf fi lb rn rm tr wk = Z ↔ (if ¬ b1 b = 0 then lp_X7_judge_51 N (nI m) (lN R) m2 (nI (i + 1)) c0' l0' bf' cf' fi' lb' rn' rm' tr' wk' else some (.inl (nI i, c0', l0', bf', cf', fi', lb', rn', rm', tr', wk'))) = Z := by
      intro Z
      simp only [lp_X7_judge_51]
      rw [if_neg (nI_ge (show i < m by omega) (by omega)), ek, m_lpow (by omega) (by omega), e_b1]
      unfold pn_nzL
      rw [if_neg (show ¬ lN (10000 ^ c) = 0 from fun w => by have := (pk_lEQ (b := 0) (by omega) (by omega)).mp w; omega), pk_lDiv hR (by omega) (by omega), dgt hR, g2, e_b11, nI_1, e_nm]
    cases b with
    | false =>
      refine Or.inl ⟨nI i, lv', sv', pr', fl', cs', ct', av', dd', ca', fs', fb', lk', mb', nb', nt', ver', ci', sz', ra', c0', l0', bf', cf', fi', lb', rn', rm', tr', wk', (hX _).mpr ?_, (hY _).mpr ?_, rN_up g3 (by omega)⟩
      · rw [if_neg (fun k => k rfl)]
      · rw [if_neg (fun k => k rfl)]
    | true =>
      have g3' : rN (B + (i + 1)) nt' ver' ci' sz' (lv', sv', pr', fl', cs', ct', av', dd', ca', fs', fb', lk', mb', nb', ra') (-1) e0 e0 tr' := g3
      rcases ih m1 m2 (i + 1) lv' sv' pr' fl' cs' ct' av' dd' ca' fs' fb' lk' mb' nb' nt' ver' ci' sz' ra' c0' l0' bf' cf' fi' lb' rn' rm' tr' wk' (by omega) (by omega) (by omega) g3' with ⟨x, lv'', sv'', pr'', fl'', cs'', ct'', av'', dd'', ca'', fs'', fb'', lk'', mb'', nb'', nt'', ver'', ci'', sz'', ra'', c0'', l0'', bf'', cf'', fi'', lb'', rn'', rm'', tr'', wk'', j1, j2, j3⟩ | ⟨lv'', sv'', pr'', fl'', cs'', ct'', av'', dd'', ca'', fs'', fb'', lk'', mb'', nb'', nt'', ver'', ci'', sz'', ra'', c0'', l0'', bf'', cf'', fi'', lb'', rn'', rm'', tr'', wk'', j1, j2, j3⟩
      · exact Or.inl ⟨_, _, _, _, _, _, _, _, _, _, _, _, _, _, _, _, _, _, _, _, _, _, _, _, _, _, _, _, _, _, (hX _).mpr (by rw [if_pos (by decide)]; exact j1), (hY _).mpr (by rw [if_pos (by decide)]; exact j2), j3⟩
      · exact Or.inr ⟨_, _, _, _, _, _, _, _, _, _, _, _, _, _, _, _, _, _, _, _, _, _, _, _, _, _, _, _, _, (hX _).mpr (by rw [if_pos (by decide)]; exact j1), (hY _).mpr (by rw [if_pos (by decide)]; exact j2), j3⟩
theorem rN_rY {s : SV} {pv : Int32} {fp dp pg : Nat → Int32} (h : rN B nt ver ci sz s pv fp dp pg) : rY B ver s := by
  obtain ⟨n, z, G, v, h1, rfl, ha, rfl, hc, hm, h7, h8, h9, h10⟩ := h
  exact ⟨v, h1, rfl, h8⟩
theorem s_judge {s : SV} {pv : Int32} {fp dp pg : Nat → Int32} {nt1 ver1 : Int32} {ci1 : Nat → Int64} {sz1 : Nat → Int32} (hn : rN B nt1 ver1 ci1 sz1 s pv fp dp pg) (hy : rY B ver (lv, sv, pr, fl, cs0, ct, av, dd, ca, fs, fb, lk, mb, nb, ra)) (hB : B < 2 ^ 28) (hN : 10000 ≤ N) (t0 p1 : Int32) (p2 : Int64) (nt : Int32) (ci : Nat → Int64) (sz : Nat → Int32) :
    ∃ (a lv' sv' pr' fl' cs' ct' av' dd' : Int32) (ca' fs' fb' lk' mb' nb' : Nat → Int32) (nt' ver' : Int32) (ci' : Nat → Int64) (sz' ra' : Nat → Int32) (c0' l0' : Int32) (bf' cf' fi' lb' rn' rm' tr' wk' : Nat → Int32),
      f_X6_judge N nt1 ci1 sz1 lv sv pr fl cs0 ct av dd ca fs fb lk mb nb nt ver ci sz ra p1 p2 = some (a, lv', sv', pr', fl', cs', ct', av', dd', ca', fs', fb', lk', mb', nb', nt', ver', ci', sz', ra') ∧
      f_X7_judge N t0 c0 l0 bf cf0 fi0 lb0 pg rn0 rm tr wk p1 p2 = some (a, 0, c0', l0', bf', cf', fi', lb', rn', rm', tr', wk') ∧
      rY (B + 5) ver' (lv', sv', pr', fl', cs', ct', av', dd', ca', fs', fb', lk', mb', nb', ra') := by
  have hy2 := rY_up hy (show B ≤ B + 5 by omega)
  obtain ⟨n, z, G, v1, h1, rfl, ha, rfl, hc, hm, h7, h8, h9, h10⟩ := hn
  obtain ⟨v, hv, rfl, hvk⟩ := hy
  generalize hX : f_X6_judge _ _ _ _ _ _ _ _ _ _ _ _ _ _ _ _ _ _ _ _ _ _ _ _ _ = X
  generalize hY : f_X7_judge _ _ _ _ _ _ _ _ _ _ _ _ _ _ _ = Y
  unfold f_X6_judge at hX
  unfold f_X7_judge at hY
  have e1 : (1 : Int32).toInt = 1 := by decide
  have e4 : (4 : Int32).toInt = 4 := by decide
  rw [show f_X7_in p1.toInt64 1 4 = _ from x_in32 p1 1 4, e_b1] at hY
  by_cases q : (1 : Int32) ≤ p1 ∧ p1 ≤ 4
  · have q1 := q.1
    have q2 := q.2
    rw [i_le, e1] at q1
    rw [i_le, e4] at q2
    obtain ⟨m, hm5, rfl⟩ := i_of (x := p1) (n := 5) (by omega) (by omega)
    rw [nI_toInt (by omega)] at q1 q2
    have m1 : 1 ≤ m := by omega
    have htp := tp (k := m) (by omega)
    rw [if_neg (show ¬ nI m < 1 from nI_nlt (b := 1) m1 (by omega)), if_neg (show ¬ (4 : Int32) < nI m from nI_nlt (a := 4) (by omega) (by omega))] at hX
    rw [if_pos q, if_neg (by decide), m_lpow (by omega) (by omega), e_b1, x_in, show (1 : Int64) = lN 1 from rfl, show lN (10000 ^ m) - lN 1 = lN (10000 ^ m - 1) from by
      have := (Int64.ofNat_add (10000 ^ m - 1) 1)
      rw [Nat.sub_add_cancel htp.1] at this
      rw [show lN (10000 ^ m) = Int64.ofNat (10000 ^ m) from rfl, this]
      exact Int64.add_sub_cancel _ _, e_b1] at hY
    by_cases w : lg_cmp p2 0 < 0
    · rw [if_pos w] at hX
      rw [if_neg (show ¬ (0 ≤ p2 ∧ p2 ≤ lN (10000 ^ m - 1)) from fun k => by
        have a1 := (lgc_lt _ _).mp w
        have a2 := k.1
        rw [fa_lt64] at a1
        rw [fa_le64] at a2
        omega), if_neg (fun k => k rfl)] at hY
      subst hX hY
      exact ⟨_, _, _, _, _, _, _, _, _, _, _, _, _, _, _, _, _, _, _, _, _, _, _, _, _, _, _, _, _, _, rfl, rfl, hy2⟩
    · obtain ⟨R, hR, rfl⟩ := pk_lOf (x := p2) (fun k => w ((lgc_lt _ _).mpr k))
      rw [if_neg w, x_acts (by omega) hR (by omega), e_b1] at hX
      by_cases w2 : R < 10000 ^ m
      · rw [if_pos (show lg_cmp (lN (R / 10000 ^ m)) 0 = 0 from by rw [lgc_eq, Nat.div_eq_of_lt w2]; rfl)] at hX
        rw [if_pos (show 0 ≤ lN R ∧ lN R ≤ lN (10000 ^ m - 1) from ⟨by rw [show (0 : Int64) = lN 0 from rfl, pk_lLE (by omega) hR]; omega, by rw [pk_lLE hR (by omega)]; omega⟩), if_pos (by decide)] at hY
        obtain ⟨ci', sz', k1, k2⟩ := x_copyF ha hc nt (nI v) ci sz
        obtain ⟨tr', k3, k4⟩ := m_layP tr pg (N := N) (by omega)
        have hm' := mP_lay ha hm k4
        have hr : rN (B + 1) (nI n) (nI v + 1) ci' sz' (lv, sv, pr, fl, cs0, ct, av, dd, ca, fs, fb, lk, mb, nb, ra) (-1) e0 e0 tr' := rN_new hv (by omega) ha k2 hm' hvk (Or.inl rfl)
        rw [k1, e_b4] at hX
        rw [k3, e_b1] at hY
        rcases jd_loop (B := B + 1) (by omega) hN hR (show m ≤ 4 by omega) m N N 0 lv sv pr fl cs0 ct av dd ca fs fb lk mb nb (nI n) (nI v + 1) ci' sz' ra c0 l0 bf cf0 fi0 lb0 rn0 rm tr' wk (by omega) (by omega) (by omega) hr with ⟨x, lv'', sv'', pr'', fl'', cs'', ct'', av'', dd'', ca'', fs'', fb'', lk'', mb'', nb'', nt'', ver'', ci'', sz'', ra'', c0'', l0'', bf'', cf'', fi'', lb'', rn'', rm'', tr'', wk'', j1, j2, j3⟩ | ⟨lv'', sv'', pr'', fl'', cs'', ct'', av'', dd'', ca'', fs'', fb'', lk'', mb'', nb'', nt'', ver'', ci'', sz'', ra'', c0'', l0'', bf'', cf'', fi'', lb'', rn'', rm'', tr'', wk'', j1, j2, j3⟩
        · rw [show lp_X6_judge_49 N (nI m) (lN R) N 0 lv sv pr fl cs0 ct av dd ca fs fb lk mb nb (nI n) (nI v + 1) ci' sz' ra = _ from j1, e_b1, e_s2l, e_u20] at hX
          rw [show lp_X7_judge_51 N (nI m) (lN R) N 0 c0 l0 bf cf0 fi0 lb0 rn0 rm tr' wk = _ from j2, e_b1, e_s2l, e_u11] at hY
          subst hX hY
          exact ⟨_, _, _, _, _, _, _, _, _, _, _, _, _, _, _, _, _, _, _, _, _, _, _, _, _, _, _, _, _, _, rfl, rfl, rN_rY j3⟩
        · rw [show lp_X6_judge_49 N (nI m) (lN R) N 0 lv sv pr fl cs0 ct av dd ca fs fb lk mb nb (nI n) (nI v + 1) ci' sz' ra = _ from j1, e_b1, e_s2r, e_u19] at hX
          rw [show lp_X7_judge_51 N (nI m) (lN R) N 0 c0 l0 bf cf0 fi0 lb0 rn0 rm tr' wk = _ from j2, e_b1, e_s2r, e_u10] at hY
          subst hX hY
          exact ⟨_, _, _, _, _, _, _, _, _, _, _, _, _, _, _, _, _, _, _, _, _, _, _, _, _, _, _, _, _, _, rfl, rfl, rN_rY j3⟩
      · have hlt : R / 10000 ^ m < 2 ^ 63 := Nat.lt_of_le_of_lt (Nat.div_le_self _ _) hR
        have hpos : 1 ≤ R / 10000 ^ m := (Nat.one_le_div_iff (by omega)).mpr (by omega)
        rw [if_neg (show ¬ lg_cmp (lN (R / 10000 ^ m)) 0 = 0 from fun k => by
          have := (pk_lEQ (b := 0) hlt (by omega)).mp ((lgc_eq _ _).mp k)
          omega)] at hX
        rw [if_neg (show ¬ (0 ≤ lN R ∧ lN R ≤ lN (10000 ^ m - 1)) from fun k => by
          have := (pk_lLE hR (by omega)).mp k.2
          omega), if_neg (fun k => k rfl)] at hY
        subst hX hY
        exact ⟨_, _, _, _, _, _, _, _, _, _, _, _, _, _, _, _, _, _, _, _, _, _, _, _, _, _, _, _, _, _, rfl, rfl, hy2⟩
  · rw [if_neg q, if_pos rfl] at hY
    subst hY
    by_cases w : p1 < 1
    · rw [if_pos w] at hX
      subst hX
      exact ⟨_, _, _, _, _, _, _, _, _, _, _, _, _, _, _, _, _, _, _, _, _, _, _, _, _, _, _, _, _, _, rfl, rfl, hy2⟩
    · rw [if_neg w, if_pos (show (4 : Int32) < p1 from by
        rw [i_lt] at w ⊢
        rw [i_le, i_le] at q
        omega)] at hX
      subst hX
      exact ⟨_, _, _, _, _, _, _, _, _, _, _, _, _, _, _, _, _, _, _, _, _, _, _, _, _, _, _, _, _, _, rfl, rfl, hy2⟩
end
