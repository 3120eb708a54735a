/-! the calls drawn and count -/
section
variable {n : Nat} {z : Nat → Nat} {G : Nat → Nat → Nat} {p sz : Nat → Int32} {ci : Nat → Int64} {N B : Nat} {nt ver lv sv pr cs0 ct av dd fl c0 l0 c1 : Int32} {ca fs fb mb nb ra lk cf0 fi0 lb0 rn0 cf fi rn : Nat → Int32} {pv : Int32} {fp dp pg : Nat → Int32} {ud np dg : Int32}
theorem drw (s : Int64) : ∃ V, V < 2 ^ 31 ∧ ((s.toUInt64 >>> ((33 : Int32).toInt64.toUInt64 &&& Int64.toUInt64 63)).toInt64).toInt32 = nI V := by
  obtain ⟨X, hX, rfl⟩ := wb_of s
  refine ⟨X / 2 ^ 33, by omega, ?_⟩
  rw [show (33 : Int32) = nI 33 from rfl, wb_shr hX (by omega), lN_i]
theorem dv16 {V : Nat} (h : V < 2 ^ 31) : nI V / 16 = nI (V / 16) := by rw [show (16 : Int32) = nI 16 from rfl, pk_div h (by omega) (by omega)]
theorem dv256 {V : Nat} (h : V < 2 ^ 31) : nI V / 256 = nI (V / 256) := by rw [show (256 : Int32) = nI 256 from rfl, pk_div h (by omega) (by omega)]
theorem rm2 {V : Nat} (h : V < 2 ^ 31) : nI V - nI V / 2 * 2 = nI (V % 2) := by rw [show (2 : Int32) = nI 2 from rfl, pk_rem h (by omega) (by omega)]
theorem no_found (ha : aP 0 z G) : fb_ct (fun q => decide (FF 0 z G q ≠ none)) 32 = 0 := fb_ct_zero.mpr (fun k hk => by
  rw [decide_eq_false_iff_not]
  intro w
  have := of_decide_eq_true (FF_th ha hk w)
  omega)
set_option maxHeartbeats 1000000 in
theorem dr_loop (hB : B < 2 ^ 28) (hN : 10000 ≤ N) {n m : Nat} (hn8 : n ≤ 8) (hm20 : m ≤ 20) : ∀ (c M1 M2 i : Nat) (su : Int32) (sd : Int64) (lv sv pr fl cs0 ct av dd : Int32) (ca fs fb lk mb nb : Nat → Int32) (ver : Int32) (ci : Nat → Int64) (sz ra : Nat → Int32) (c0 l0 : Int32) (cf fi lb rn rm tr wk : Nat → Int32), i + c = m → c < M1 → c < M2 →
    rN (B + i) (nI n) ver ci sz (lv, sv, pr, fl, cs0, ct, av, dd, ca, fs, fb, lk, mb, nb, ra) (-1) e0 e0 tr →
    ∃ (su' : Int32) (sd' : Int64) (lv' sv' pr' fl' cs' ct' av' dd' : Int32) (ca' fs' fb' lk' mb' nb' : Nat → Int32) (ver' : Int32) (ci' : Nat → Int64) (sz' ra' : Nat → Int32) (c0' l0' : Int32) (cf' fi' lb' rn' rm' tr' wk' : Nat → Int32),
      lp_X6_drawn_35 N (nI m) (nI n) M1 su (nI i) sd lv sv pr fl cs0 ct av dd ca fs fb lk mb nb ver ci sz ra = some (su', sd', lv', sv', pr', fl', cs', ct', av', dd', ca', fs', fb', lk', mb', nb', ver', ci', sz', ra') ∧
      lp_X7_drawn_43 N (nI m) (nI n) M2 su (nI i) sd c0 l0 cf fi lb rn rm tr wk = some (su', sd', c0', l0', cf', fi', lb', rn', rm', tr', wk') ∧
      rY (B + m) ver' (lv', sv', pr', fl', cs', ct', av', dd', ca', fs', fb', lk', mb', nb', ra') := by
  intro c
  induction c with
  | zero =>
    intro M1 M2 i su sd lv sv pr fl cs0 ct av dd ca fs fb lk mb nb ver ci sz ra c0 l0 cf fi lb rn rm tr wk hi h1 h2 hn
    obtain ⟨m1, rfl⟩ : ∃ m, M1 = m + 1 := ⟨M1 - 1, by omega⟩
    obtain ⟨m2, rfl⟩ : ∃ m, M2 = m + 1 := ⟨M2 - 1, by omega⟩
    refine ⟨su, sd, lv, sv, pr, fl, cs0, ct, av, dd, ca, fs, fb, lk, mb, nb, ver, ci, sz, ra, c0, l0, cf, fi, lb, rn, rm, tr, wk, ?_, ?_, rN_rY (rN_up hn (by omega))⟩
    · simp only [lp_X6_drawn_35]
      rw [if_pos (nI_le (by omega) (by omega))]
    · simp only [lp_X7_drawn_43]
      rw [if_pos (nI_le (by omega) (by omega))]
  | succ c ih =>
    intro M1 M2 i su sd lv sv pr fl cs0 ct av dd ca fs fb lk mb nb ver ci sz ra c0 l0 cf fi lb rn rm tr wk hi h1 h2 hn
    obtain ⟨m1, rfl⟩ : ∃ m, M1 = m + 1 := ⟨M1 - 1, by omega⟩
    obtain ⟨m2, rfl⟩ : ∃ m, M2 = m + 1 := ⟨M2 - 1, by omega⟩
    have hn0 := hn
    obtain ⟨n', z, G, v, g1, rfl, ha, hnn, hc, hm, g7, g8, g9, g10⟩ := hn
    have hn8' := ha.1
    have enn : n = n' := (nI_eq (by omega) (by omega)).mp hnn
    subst enn
    obtain ⟨V, hV, eV⟩ := drw (sd * 6364136223846793005 + 1442695040888963407)
    have sX : ∀ (Z : Option (Int32 × Int64 × Int32 × Int32 × Int32 × Int32 × Int32 × Int32 × Int32 × Int32 × (Nat → Int32) × (Nat → Int32) × (Nat → Int32) × (Nat → Int32) × (Nat → Int32) × (Nat → Int32) × Int32 × (Nat → Int64) × (Nat → Int32) × (Nat → Int32))), lp_X6_drawn_35 N (nI m) (nI n) (m1 + 1) su (nI i) sd lv sv pr fl cs0 ct av dd ca fs fb lk mb nb (nI v) ci sz ra = Z ↔ (pn_bd19 (f_X6_foundAfterDraw N lv sv pr fl cs0 ct av dd ca fs fb lk mb nb (nI n) (nI v) ci sz ra (nI V)) fun a lv' sv' pr' fl' cs' ct' av' dd' ca' fs' fb' lk' mb' nb' ver' ci' sz' ra' => lp_X6_drawn_35 N (nI m) (nI n) m1 (su + a) (nI (i + 1)) (sd * 6364136223846793005 + 1442695040888963407) lv' sv' pr' fl' cs' ct' av' dd' ca' fs' fb' lk' mb' nb' ver' ci' sz' ra') = Z := by
      intro Z
      simp only [lp_X6_drawn_35]
      rw [if_neg (nI_ge (show i < m by omega) (by omega)), e_nm, eV, nI_1]
      rfl
    by_cases q : n = 0
    · subst q
      obtain ⟨c1, l1, cf1, fi1, lb1, rn1, f1, f2⟩ := m_FA (N := N) ha hm (by omega) c0 l0 cf fi lb rn
      have hal := m_many (FF_32 ha) (fun r hr => (f2.2.2 r hr).1) (N := N) (by omega)
      rw [no_found ha] at hal
      obtain ⟨su', sd', lv', sv', pr', fl', cs', ct', av', dd', ca', fs', fb', lk', mb', nb', ver', ci', sz', ra', c0', l0', cf', fi', lb', rn', rm', tr', wk', j1, j2, j3⟩ := ih m1 m2 (i + 1) (su + 0) (sd * 6364136223846793005 + 1442695040888963407) lv sv pr fl cs0 ct av dd ca fs fb lk mb nb (nI v) ci sz ra c1 l1 cf1 fi1 lb1 rn1 rm tr wk (by omega) (by omega) (by omega) (rN_up hn0 (by omega))
      refine ⟨su', sd', lv', sv', pr', fl', cs', ct', av', dd', ca', fs', fb', lk', mb', nb', ver', ci', sz', ra', c0', l0', cf', fi', lb', rn', rm', tr', wk', (sX _).mpr ?_, ?_, j3⟩
      · unfold f_X6_foundAfterDraw
        rw [show f_X1_notes (nI 0) = some (nI 0) from rfl, e_b1, if_neg (show ¬ (0 : Int32) < nI 0 by decide), e_b19]
        exact j1
      · simp only [lp_X7_drawn_43]
        unfold j_X7_drawn_106
        rw [if_neg (nI_ge (show i < m by omega) (by omega)), e_nm, eV, e_nm, if_pos (show nI 0 ≤ 0 by decide), f1, e_b6, hal, e_b1, e_nm, nI_1, e_nm]
        exact j2
    · have hA : V % n < n := Nat.mod_lt _ (by omega)
      have hBb : V / 16 % n < n := Nat.mod_lt _ (by omega)
      have hmd : V / 256 % 2 < 2 := Nat.mod_lt _ (by omega)
      have r1 : nI V - nI V / nI n * nI n = nI (V % n) := pk_rem hV (by omega) (by omega)
      have r2 : (nI V / 16) - (nI V / 16) / nI n * nI n = nI (V / 16 % n) := by rw [dv16 hV]; exact pk_rem (by omega) (by omega) (by omega)
      have r3 : (nI V / 256) - (nI V / 256) / 2 * 2 = nI (V / 256 % 2) := by rw [dv256 hV]; exact rm2 (by omega)
      obtain ⟨ci1, sz1, k1, k2⟩ := x_shift (ver := nI v) ha hc (N := N) (by omega) hA hBb hmd
      obtain ⟨rm1, wk1, tr1, k3, k4⟩ := m_mv ha hm (N := N) (by omega) hA hBb hmd rm wk
      have hA' := mvA ha hA hBb (V / 256 % 2)
      have hs' : sK n (mvZ z (V % n) (V / 16 % n)) (mvG n z G (V % n) (V / 16 % n) (V / 256 % 2)) (nI v + 1) (lv, sv, pr, fl, cs0, ct, av, dd, ca, fs, fb, lk, mb, nb, ra) := by rw [nI_1]; exact sK_new g8 (by omega) (by omega)
      obtain ⟨pr2, fl2, cs2, ct2, av2, dd2, ca2, fs2, fb2, lk2, mb2, nb2, ra2, e1, e2, e3⟩ := x_studyF (N := N) hA' k2 (by omega) hs'
      obtain ⟨c1, l1, cf1, fi1, lb1, rn1, f1, f2⟩ := m_FA (N := N) hA' k4 (by omega) c0 l0 cf fi lb rn
      have hal := m_many (FF_32 hA') (fun r hr => (f2.2.2 r hr).1) (N := N) (by omega)
      have hnew : rN (B + (i + 1)) (nI n) (nI v + 1) ci1 sz1 (nI v + 1, nI v + 1, pr2, fl2, cs2, ct2, av2, dd2, ca2, fs2, fb2, lk2, mb2, nb2, ra2) (-1) e0 e0 tr1 := by
        refine ⟨n, _, _, v + 1, by omega, nI_1 v, hA', rfl, k2, k4, sK_st e2 e3, by rw [nI_1]; exact vK_st, Or.inl rfl, fun k => absurd k (by rw [nI_1]; exact m1_nI (by omega))⟩
      obtain ⟨su', sd', lv', sv', pr', fl', cs', ct', av', dd', ca', fs', fb', lk', mb', nb', ver', ci', sz', ra', c0', l0', cf', fi', lb', rn', rm', tr', wk', j1, j2, j3⟩ := ih m1 m2 (i + 1) (su + av2) (sd * 6364136223846793005 + 1442695040888963407) (nI v + 1) (nI v + 1) pr2 fl2 cs2 ct2 av2 dd2 ca2 fs2 fb2 lk2 mb2 nb2 (nI v + 1) ci1 sz1 ra2 c1 l1 cf1 fi1 lb1 rn1 rm1 tr1 wk1 (by omega) (by omega) (by omega) hnew
      refine ⟨su', sd', lv', sv', pr', fl', cs', ct', av', dd', ca', fs', fb', lk', mb', nb', ver', ci', sz', ra', c0', l0', cf', fi', lb', rn', rm', tr', wk', (sX _).mpr ?_, ?_, j3⟩
      · unfold f_X6_foundAfterDraw
        rw [show f_X1_notes (nI n) = some (nI n) from rfl, e_b1, if_pos (show (0 : Int32) < nI n from nI_lt (a := 0) (by omega) (by omega)), e_nz _ (by omega) (by omega), e_nz _ (by omega) (by omega), r1, r2, r3, k1, e_b3, e1, e_b15, show f_X4_alive av2 = some av2 from rfl, e_b1, e_b19]
        exact j1
      · simp only [lp_X7_drawn_43]
        unfold j_X7_drawn_106
        rw [if_neg (nI_ge (show i < m by omega) (by omega)), e_nm, eV, e_nm, if_neg (nI_nle (by omega) (by omega)), e_nz _ (by omega) (by omega), e_nz _ (by omega) (by omega), r1, r2, r3, k3, e_b3, f1, e_b6, hal, e_b1, e_nm, nI_1, e_nm, ← e3.2.2.2.2.2.2.1]
        exact j2
theorem s_drawn {s : SV} {nt1 ver1 : Int32} {ci1 : Nat → Int64} {sz1 : Nat → Int32} (hn : rN B nt1 ver1 ci1 sz1 s pv fp dp pg) (hy : rY B ver (lv, sv, pr, fl, cs0, ct, av, dd, ca, fs, fb, lk, mb, nb, ra)) (hB : B < 2 ^ 27) (hN : 10000 ≤ N) (t0 p1 : Int32) (sd : Int64) (nt : Int32) (ci : Nat → Int64) (sz rm tr wk : Nat → Int32) :
    ∃ (a : Int32) (sd' : Int64) (lv' sv' pr' fl' cs' ct' av' dd' : Int32) (ca' fs' fb' lk' mb' nb' : Nat → Int32) (nt' ver' : Int32) (ci' : Nat → Int64) (sz' ra' : Nat → Int32) (c0' l0' : Int32) (cf' fi' lb' rn' rm' tr' wk' : Nat → Int32),
      f_X6_drawn N sd nt1 ci1 sz1 lv sv pr fl cs0 ct av dd ca fs fb lk mb nb nt ver ci sz ra p1 = some (a, sd', lv', sv', pr', fl', cs', ct', av', dd', ca', fs', fb', lk', mb', nb', nt', ver', ci', sz', ra') ∧
      f_X7_drawn N t0 sd c0 l0 cf0 fi0 lb0 pg rn0 rm tr wk p1 = some (a, 0, sd', c0', l0', cf', fi', lb', rn', rm', tr', wk') ∧
      rY (B + 21) ver' (lv', sv', pr', fl', cs', ct', av', dd', ca', fs', fb', lk', mb', nb', ra') := by
  have hy2 := rY_up hy (show B ≤ B + 21 by omega)
  obtain ⟨n, z, G, v1, h1, rfl, ha, rfl, hc, hm, h7, h8, h9, h10⟩ := hn
  obtain ⟨v, hv, rfl, hvk⟩ := hy
  generalize hX : f_X6_drawn _ _ _ _ _ _ _ _ _ _ _ _ _ _ _ _ _ _ _ _ _ _ _ _ _ = X
  generalize hY : f_X7_drawn _ _ _ _ _ _ _ _ _ _ _ _ _ _ = Y
  unfold f_X6_drawn at hX
  unfold f_X7_drawn at hY
  have e1 : (1 : Int32).toInt = 1 := by decide
  have e20 : (20 : Int32).toInt = 20 := by decide
  rw [show f_X7_in p1.toInt64 1 20 = _ from x_in32 p1 1 20, e_b1] at hY
  by_cases q : (1 : Int32) ≤ p1 ∧ p1 ≤ 20
  · have q1 := q.1
    have q2 := q.2
    rw [i_le, e1] at q1
    rw [i_le, e20] at q2
    obtain ⟨m, hm5, rfl⟩ := i_of (x := p1) (n := 21) (by omega) (by omega)
    rw [nI_toInt (by omega)] at q1 q2
    obtain ⟨ci', sz', k1, k2⟩ := x_copyF ha hc nt (nI v) ci sz
    obtain ⟨tr', k3, k4⟩ := m_layP tr pg (N := N) (by omega)
    have hm' := mP_lay ha hm k4
    have hr : rN (B + 1 + 0) (nI n) (nI v + 1) ci' sz' (lv, sv, pr, fl, cs0, ct, av, dd, ca, fs, fb, lk, mb, nb, ra) (-1) e0 e0 tr' := rN_new hv (by omega) ha k2 hm' hvk (Or.inl rfl)
    obtain ⟨su'', sd'', lv'', sv'', pr'', fl'', cs'', ct'', av'', dd'', ca'', fs'', fb'', lk'', mb'', nb'', ver'', ci'', sz'', ra'', c0'', l0'', cf'', fi'', lb'', rn'', rm'', tr'', wk'', j1, j2, j3⟩ := dr_loop (B := B + 1) (by omega) hN ha.1 (show m ≤ 20 by omega) m N N 0 0 sd lv sv pr fl cs0 ct av dd ca fs fb lk mb nb (nI v + 1) ci' sz' ra c0 l0 cf0 fi0 lb0 rn0 rm tr' wk (by omega) (by omega) (by omega) hr
    rw [if_neg (show ¬ nI m < 1 from nI_nlt (b := 1) (by omega) (by omega)), if_pos (show nI m ≤ 20 from q.2), k1, e_b4, show lp_X6_drawn_35 N (nI m) (nI n) N 0 0 sd lv sv pr fl cs0 ct av dd ca fs fb lk mb nb (nI v + 1) ci' sz' ra = _ from j1, e_b1, e_u20] at hX
    rw [if_pos q, if_pos (by decide), k3, e_b1, rd0, hm.1, show lp_X7_drawn_43 N (nI m) (nI n) N 0 0 sd c0 l0 cf0 fi0 lb0 rn0 rm tr' wk = _ from j2, e_b1, e_u11] at hY
    subst hX hY
    exact ⟨_, _, _, _, _, _, _, _, _, _, _, _, _, _, _, _, _, _, _, _, _, _, _, _, _, _, _, _, _, _, rfl, rfl, rY_up j3 (by omega)⟩
  · rw [if_neg q, if_neg (fun j => j rfl)] at hY
    subst hY
    by_cases w : p1 < 1
    · rw [if_pos w] at hX
      subst hX
      exact ⟨_, _, _, _, _, _, _, _, _, _, _, _, _, _, _, _, _, _, _, _, _, _, _, _, _, _, _, _, _, _, rfl, rfl, hy2⟩
    · rw [if_neg w, if_neg (show ¬ p1 ≤ 20 from fun k => q ⟨by rw [i_le]; rw [i_lt] at w; omega, k⟩)] at hX
      subst hX
      exact ⟨_, _, _, _, _, _, _, _, _, _, _, _, _, _, _, _, _, _, _, _, _, _, _, _, _, _, _, _, _, _, rfl, rfl, hy2⟩
/-! counts -/
theorem x_clg (ha : aP n z G) (hc : cP n z G (nI n) sz ci) (h : dF n z G cs0 av dd ca fs fb mb nb ra) (hN : 2000 ≤ N) : f_X4_clashing N cs0 fs mb ci = some (nI (fb_ct (fun c => decide (0 < fb_ct (clB n z G c) 32)) (KK n z G))) := by
  have hK := KK_le (n := n) (z := z) (G := G)
  have main := lp_cnt (fun m i s => lp_X4_clashing_4 N cs0 fs mb ci m s (nI i)) (KK n z G) (fun c => decide (0 < fb_ct (clB n z G c) 32)) (fun s => s)
    (fun m s => by
      simp only [lp_X4_clashing_4]
      rw [if_pos (show cs0 ≤ nI (KK n z G) from by rw [h.1]; exact nI_le (Nat.le_refl _) (by omega))])
    (fun m i k hi => by
      simp only [lp_X4_clashing_4]
      rw [if_neg (show ¬ cs0 ≤ nI i from by rw [h.1]; exact nI_ge hi (by omega)), x_clash ha hc h hN hi, e_b1]
      cases decide (0 < fb_ct (clB n z G i) 32) with
      | false => rw [if_pos bt0, e_nm, nI_1, if_neg (by decide)]; rfl
      | true => rw [if_neg bt1, e_nm, e_nm, nI_1, nI_1, if_pos rfl])
    N (by omega)
  unfold f_X4_clashing
  rw [show lp_X4_clashing_4 N cs0 fs mb ci N 0 0 = _ from main, e_b1, e_u1]
theorem m_clg (ha : aP n z G) (hm : mP n z G p) (hN : 2000 ≤ N) (c0 l0 : Int32) (cf0 fi0 lb0 rn0 : Nat → Int32) : ∃ (c1 l1 : Int32) (cf fi lb rn : Nat → Int32), f_X7_manyClash N c0 l0 cf0 fi0 lb0 p rn0 = some (nI (fb_ct (fun c => decide (0 < fb_ct (clB n z G c) 32)) (KK n z G)), c1, l1, cf, fi, lb, rn) := by
  have hK := KK_le (n := n) (z := z) (G := G)
  obtain ⟨c1, l1, cf, fi, lb, rn, f1, h⟩ := m_FA ha hm hN c0 l0 cf0 fi0 lb0 rn0
  have main := lp_cnt (fun m i s => lp_X7_manyClash_12 N p c1 cf fi m s (nI i)) (KK n z G) (fun c => decide (0 < fb_ct (clB n z G c) 32)) (fun s => s)
    (fun m s => by
      simp only [lp_X7_manyClash_12]
      rw [if_pos (show c1 ≤ nI (KK n z G) from by rw [h.1]; exact nI_le (Nat.le_refl _) (by omega))])
    (fun m i k hi => by
      simp only [lp_X7_manyClash_12]
      rw [if_neg (show ¬ c1 ≤ nI i from by rw [h.1]; exact nI_ge hi (by omega)), m_clash ha hm h hN hi, e_b1]
      cases decide (0 < fb_ct (clB n z G i) 32) with
      | false => rw [if_pos bt0, e_nm, e_nm, nI_1, i_p0, if_neg (by decide)]; rfl
      | true => rw [if_neg bt1, e_nm, e_nm, nI_1, nI_1, if_pos rfl])
    N (by omega)
  refine ⟨c1, l1, cf, fi, lb, rn, ?_⟩
  unfold f_X7_manyClash
  rw [f1, e_b6, show lp_X7_manyClash_12 N p c1 cf fi N 0 0 = _ from main, e_b1, e_u1]
theorem s_count {tl ts sc se : Int32} {sg tx sN sW sH mI mV mH fd ns ss bk : Nat → Int32} {shc : Nat → Int64} (hT : rT tl ts sg tx) (ho : rO sc se sN sW sH mI mV mH) (hu : uR ud np dg fd ns ss shc bk) (hn : rN B nt ver ci sz (lv, sv, pr, fl, cs0, ct, av, dd, ca, fs, fb, lk, mb, nb, ra) pv fp dp pg) (hN : 2000 ≤ N) (t0 p1 : Int32) :
    ∃ (a lv' sv' pr' fl' cs' ct' av' dd' : Int32) (ca' fs' fb' lk' mb' nb' ra' : Nat → Int32) (c0' l0' : Int32) (cf' fi' lb' rn' : Nat → Int32), f_X6_count N sc ud lv sv pr fl cs0 ct av dd ca fs fb lk mb nb nt ver ci sz ra tl p1 = some (a, lv', sv', pr', fl', cs', ct', av', dd', ca', fs', fb', lk', mb', nb', ra') ∧ f_X7_count N t0 ts dg se c0 l0 cf0 fi0 lb0 pg rn0 p1 = some (a, 0, c0', l0', cf', fi', lb', rn') ∧
      rN B nt ver ci sz (lv', sv', pr', fl', cs', ct', av', dd', ca', fs', fb', lk', mb', nb', ra') pv fp dp pg := by
  have hn0 := hn
  obtain ⟨n, z, G, v, h1, rfl, ha, rfl, hc, hm, h7, h8, h9, h10⟩ := hn
  obtain ⟨len, hT1, rfl, rfl, rfl⟩ := hT
  obtain ⟨k, A, V, W, hk, rfl, rfl, ho⟩ := ho
  obtain ⟨u, w, hu1, hw1, rfl, rfl, rfl, hH⟩ := hu
  obtain ⟨c1, l1, cf, fi, lb, rn, f1, f2⟩ := m_FA ha hm hN c0 l0 cf0 fi0 lb0 rn0
  generalize hX : f_X6_count _ _ _ _ _ _ _ _ _ _ _ _ _ _ _ _ _ _ _ _ _ _ _ _ = X
  generalize hY : f_X7_count _ _ _ _ _ _ _ _ _ _ _ _ _ = Y
  unfold f_X6_count at hX
  unfold f_X7_count at hY
  rw [f1, e_b6] at hY
  by_cases q0 : p1 = 0
  · subst q0
    rw [if_pos rfl, show f_X5_length (nI len) = some (nI len) from rfl, e_b1] at hX
    rw [if_pos rfl] at hY
    subst hX hY
    exact ⟨_, _, _, _, _, _, _, _, _, _, _, _, _, _, _, _, _, _, _, _, _, _, rfl, rfl, hn0⟩
  · rw [if_neg q0] at hX hY
    by_cases q1 : p1 = 1
    · subst q1
      rw [if_pos rfl, show f_X1_notes (nI n) = some (nI n) from rfl, e_b1] at hX
      rw [if_pos rfl, rd0, hm.1] at hY
      subst hX hY
      exact ⟨_, _, _, _, _, _, _, _, _, _, _, _, _, _, _, _, _, _, _, _, _, _, rfl, rfl, hn0⟩
    · rw [if_neg q1] at hX hY
      by_cases q6 : p1 = 6
      · subst q6
        rw [if_pos rfl] at hX
        rw [if_neg (by decide), if_neg (by decide), if_neg (by decide), if_neg (by decide), if_pos rfl] at hY
        subst hX hY
        exact ⟨_, _, _, _, _, _, _, _, _, _, _, _, _, _, _, _, _, _, _, _, _, _, rfl, rfl, hn0⟩
      · rw [if_neg q6] at hX
        by_cases q7 : p1 = 7
        · subst q7
          rw [if_pos rfl] at hX
          rw [if_neg (by decide), if_neg (by decide), if_neg (by decide), if_neg (by decide), if_neg (by decide), if_pos rfl] at hY
          subst hX hY
          exact ⟨_, _, _, _, _, _, _, _, _, _, _, _, _, _, _, _, _, _, _, _, _, _, rfl, rfl, hn0⟩
        · obtain ⟨pr2, fl2, cs2, ct2, av2, dd2, ca2, fs2, fb2, lk2, mb2, nb2, ra2, e1, e2, e3⟩ := x_studyF ha hc hN h7
          have hst : rN B (nI n) (nI v) ci sz (nI v, nI v, pr2, fl2, cs2, ct2, av2, dd2, ca2, fs2, fb2, lk2, mb2, nb2, ra2) pv fp dp pg := rN_st h1 ha hc hm h8 h9 h10 (sK_st e2 e3) (Or.inr ⟨rfl, rfl⟩)
          rw [if_neg q7] at hX
          unfold f_X6_countFound at hX
          rw [e1, e_b15] at hX
          by_cases q2 : p1 = 2
          · subst q2
            obtain ⟨t1, t2, t3⟩ := TC_ok ha (full_31 n)
            have es : av2 + dd2 = nI (fb_ct (fun q => lf n z (full n) q) 32) := by
              rw [e3.2.2.2.2.2.2.1, e3.2.2.2.2.2.2.2, nI_add, RS_both (F := (TC n z G (full n)).2.1), RS_alive t2]
              rfl
            rw [if_pos rfl, show f_X4_alive av2 = some av2 from rfl, e_b1, show f_X4_dead dd2 = some dd2 from rfl, e_b1, e_b16, es] at hX
            rw [if_pos rfl, m_all ha hm, e_b1, m_refs ha hm (full_31 n) hN, e_b1] at hY
            subst hX hY
            exact ⟨_, _, _, _, _, _, _, _, _, _, _, _, _, _, _, _, _, _, _, _, _, _, rfl, rfl, hst⟩
          · rw [if_neg q2] at hX hY
            by_cases q3 : p1 = 3
            · subst q3
              rw [if_pos rfl, show f_X4_cases cs2 = some cs2 from rfl, e_b1, e_b16] at hX
              rw [if_pos rfl] at hY
              have ec : c1 = cs2 := f2.1.trans e3.1.symm
              subst hX hY ec
              exact ⟨_, _, _, _, _, _, _, _, _, _, _, _, _, _, _, _, _, _, _, _, _, _, rfl, rfl, hst⟩
            · rw [if_neg q3] at hX hY
              by_cases q4 : p1 = 4
              · subst q4
                obtain ⟨c2, l2, cf2, fi2, lb2, rn2, d1⟩ := m_deadC ha hm hN c1 l1 cf fi lb rn
                have ed : dd2 = nI (fb_ct (fun q => lf n z (full n) q && decide ((TC n z G (full n)).2.1 q = none)) 32) := e3.2.2.2.2.2.2.2
                rw [if_pos rfl, show f_X4_dead dd2 = some dd2 from rfl, e_b1, e_b16] at hX
                rw [if_pos rfl, d1, e_b7, ← ed] at hY
                subst hX hY
                exact ⟨_, _, _, _, _, _, _, _, _, _, _, _, _, _, _, _, _, _, _, _, _, _, rfl, rfl, hst⟩
              · rw [if_neg q4] at hX hY
                by_cases q5 : p1 = 5
                · subst q5
                  obtain ⟨c2, l2, cf2, fi2, lb2, rn2, d1⟩ := m_clg ha hm hN c1 l1 cf fi lb rn
                  rw [if_pos rfl, x_clg ha hc e3 hN, e_b1, e_b16] at hX
                  rw [if_pos rfl, d1, e_b7] at hY
                  subst hX hY
                  exact ⟨_, _, _, _, _, _, _, _, _, _, _, _, _, _, _, _, _, _, _, _, _, _, rfl, rfl, hst⟩
                · rw [if_neg q5, e_b16] at hX
                  rw [if_neg q5, if_neg q6, if_neg q7] at hY
                  subst hX hY
                  exact ⟨_, _, _, _, _, _, _, _, _, _, _, _, _, _, _, _, _, _, _, _, _, _, rfl, rfl, hst⟩
end
