/-! all parts are weighed; share and lost -/
section
variable {n : Nat} {z : Nat → Nat} {G : Nat → Nat → Nat} {p sz : Nat → Int32} {ci : Nat → Int64} {N B : Nat} {nt ver lv sv pr cs0 ct av dd fl c0 l0 : Int32} {ca fs fb mb nb ra lk cf0 fi0 lb0 rn0 : Nat → Int32} {s : SV} {pv : Int32} {fp dp pg : Nat → Int32} {yver : Int32}
theorem dT_w (ha : aP n z G) {P : Nat} (hP : P < 2 ^ 31) {pr cs0 ct av dd : Int32} {ca fs fb mb nb ra : Nat → Int32} (h : dT n z G P pr cs0 ct av dd ca fs fb mb nb ra) : av = nI (alN n z G P) ∧ dd = nI (ddN n z G P) := by
  obtain ⟨t1, t2, t3⟩ := TC_ok ha hP
  obtain ⟨h1, h2, h3, h4, h5, h6, h7, h8, h9⟩ := h
  refine ⟨?_, h9⟩
  rw [h8, RS_alive t2]; rfl
theorem pw_256 {n : Nat} (h : n ≤ 8) : 2 ^ n ≤ 256 := by
  have : 2 ^ n ≤ 2 ^ 8 := Nat.pow_le_pow_right (by omega) h
  exact this
theorem pw_1 (n : Nat) : 1 ≤ 2 ^ n := Nat.one_le_two_pow
theorem x_wl (ha : aP n z G) (hc : cP n z G (nI n) sz ci) (hN : 2000 ≤ N) {v : Nat} (hv : v < 2 ^ 30) {ylv ysv ypr yfl ycs yct yav ydd : Int32} {yca yfs yfb ylk ymb ynb yra : Nat → Int32} (hl : ylv = nI v → dL n z G yfl ylk) (hvs : vK v (ylv, ysv, ypr, yfl, ycs, yct, yav, ydd, yca, yfs, yfb, ylk, ymb, ynb, yra)) :
    ∃ (dp' fp' : Nat → Int32) (ylv' ysv' ypr' yfl' ycs' yct' yav' ydd' : Int32) (yca' yfs' yfb' ylk' ymb' ynb' yra' : Nat → Int32), lp_X6_weighParts_37 N (nI n) (nI n) (nI v) ci sz N 0 dp fp ylv ysv ypr yfl ycs yct yav ydd yca yfs yfb ylk ymb ynb yra = some (dp', fp', ylv', ysv', ypr', yfl', ycs', yct', yav', ydd', yca', yfs', yfb', ylk', ymb', ynb', yra') ∧ wK n z G fp' dp' ∧ vK v (ylv', ysv', ypr', yfl', ycs', yct', yav', ydd', yca', yfs', yfb', ylk', ymb', ynb', yra') := by
  have h8 := ha.1
  have h256 := pw_256 h8
  have main := lp_up (fun m i (t : (Nat → Int32) × (Nat → Int32) × SV) => lp_X6_weighParts_37 N (nI n) (nI n) (nI v) ci sz m (nI i) t.1 t.2.1 t.2.2.1 t.2.2.2.1 t.2.2.2.2.1 t.2.2.2.2.2.1 t.2.2.2.2.2.2.1 t.2.2.2.2.2.2.2.1 t.2.2.2.2.2.2.2.2.1 t.2.2.2.2.2.2.2.2.2.1 t.2.2.2.2.2.2.2.2.2.2.1 t.2.2.2.2.2.2.2.2.2.2.2.1 t.2.2.2.2.2.2.2.2.2.2.2.2.1 t.2.2.2.2.2.2.2.2.2.2.2.2.2.1 t.2.2.2.2.2.2.2.2.2.2.2.2.2.2.1 t.2.2.2.2.2.2.2.2.2.2.2.2.2.2.2.1 t.2.2.2.2.2.2.2.2.2.2.2.2.2.2.2.2) (2 ^ n)
    (fun i t => (∀ P, P < i → t.2.1 P = nI (alN n z G P) ∧ t.1 P = nI (ddN n z G P)) ∧ (t.2.2.1 = nI v → dL n z G t.2.2.2.2.2.1 t.2.2.2.2.2.2.2.2.2.2.2.2.2.1) ∧ vK v t.2.2) (fun t => wK n z G t.2.1 t.1 ∧ vK v t.2.2)
    (fun m t w => ⟨t, by
      simp only [lp_X6_weighParts_37]
      by_cases q : (256 : Int32) ≤ nI (2 ^ n)
      · rw [if_pos q]
      · rw [if_neg q, show f_X1_notes (nI n) = some (nI n) from rfl, e_b1, pt_two n (by omega), if_pos (nI_le (Nat.le_refl _) (by omega))], w.1, w.2.2⟩)
    (fun m i t hi w => by
      obtain ⟨f2, cs2, ct2, av2, dd2, ca2, fs2, fb2, lk2, mb2, nb2, ra2, a1, a2, a3⟩ := x_partC ha hc (P := i) (by omega) hN w.2.1 t.2.2.2.1 t.2.2.2.2.1 t.2.2.2.2.2.2.1 t.2.2.2.2.2.2.2.1 t.2.2.2.2.2.2.2.2.1 t.2.2.2.2.2.2.2.2.2.1 t.2.2.2.2.2.2.2.2.2.2.1 t.2.2.2.2.2.2.2.2.2.2.2.1 t.2.2.2.2.2.2.2.2.2.2.2.2.1 t.2.2.2.2.2.2.2.2.2.2.2.2.2.2.1 t.2.2.2.2.2.2.2.2.2.2.2.2.2.2.2.1 t.2.2.2.2.2.2.2.2.2.2.2.2.2.2.2.2
      rw [Nat.mod_eq_of_lt hi] at a1 a2
      obtain ⟨b1, b2⟩ := dT_w ha (by omega) a2
      refine Or.inr ⟨(upd t.1 i dd2, upd t.2.1 i av2, nI v, -1, nI i, f2, cs2, ct2, av2, dd2, ca2, fs2, fb2, lk2, mb2, nb2, ra2), ⟨fun P hP => ?_, fun _ => a3, vI_s v, Or.inl rfl⟩, ?_⟩
      · by_cases e : P = i
        · subst e
          exact ⟨by show upd t.2.1 P av2 P = _; rw [upd_s]; exact b1, by show upd t.1 P dd2 P = _; rw [upd_s]; exact b2⟩
        · exact ⟨by show upd t.2.1 i av2 P = _; rw [upd_n _ _ e]; exact (w.1 P (by omega)).1, by show upd t.1 i dd2 P = _; rw [upd_n _ _ e]; exact (w.1 P (by omega)).2⟩
      · simp only [lp_X6_weighParts_37]
        rw [if_neg (show ¬ (256 : Int32) ≤ nI i from nI_ge (b := 256) (by omega) (by omega)), show f_X1_notes (nI n) = some (nI n) from rfl, e_b1, pt_two n (by omega), if_neg (nI_ge hi (by omega)), a1, e_b15, show f_X4_alive av2 = some av2 from rfl, e_b1, e_wrI _ _ _ (by omega) (by omega), show f_X4_dead dd2 = some dd2 from rfl, e_b1, e_wrI _ _ _ (by omega) (by omega), nI_1, e_nm])
    N 0 (dp, fp, ylv, ysv, ypr, yfl, ycs, yct, yav, ydd, yca, yfs, yfb, ylk, ymb, ynb, yra) (Nat.zero_le _) (by omega) ⟨fun P hP => by omega, hl, hvs⟩
  obtain ⟨t, k1, k2, k3⟩ := main
  exact ⟨_, _, _, _, _, _, _, _, _, _, _, _, _, _, _, _, _, k1, k2, k3⟩
theorem s_weigh {ylv ysv ypr yfl ycs yct yav ydd : Int32} {yca yfs yfb ylk ymb ynb yra : Nat → Int32} {v : Nat} (hv : v ≤ B) (hB : B < 2 ^ 28) (ha : aP n z G) (hc : cP n z G (nI n) sz ci) (hp : vI v pv) (hw : pv = nI v → wK n z G fp dp) (hy : rY B yver (ylv, ysv, ypr, yfl, ycs, yct, yav, ydd, yca, yfs, yfb, ylk, ymb, ynb, yra)) (hN : 2000 ≤ N) (ynt : Int32) (yci : Nat → Int64) (ysz : Nat → Int32) :
    ∃ (dp' fp' : Nat → Int32) (ylv' ysv' ypr' yfl' ycs' yct' yav' ydd' : Int32) (yca' yfs' yfb' ylk' ymb' ynb' : Nat → Int32) (ynt' yver' : Int32) (yci' : Nat → Int64) (ysz' yra' : Nat → Int32), f_X6_weighParts N pv dp fp (nI n) (nI v) ci sz ylv ysv ypr yfl ycs yct yav ydd yca yfs yfb ylk ymb ynb ynt yver yci ysz yra = some (nI v, dp', fp', ylv', ysv', ypr', yfl', ycs', yct', yav', ydd', yca', yfs', yfb', ylk', ymb', ynb', ynt', yver', yci', ysz', yra') ∧ wK n z G fp' dp' ∧ rY (B + 1) yver' (ylv', ysv', ypr', yfl', ycs', yct', yav', ydd', yca', yfs', yfb', ylk', ymb', ynb', yra') := by
  unfold f_X6_weighParts
  rw [show f_X1_version (nI v) = some (nI v) from rfl, e_b1]
  by_cases q : pv = nI v
  · rw [if_neg (fun j => j q)]
    exact ⟨dp, fp, _, _, _, _, _, _, _, _, _, _, _, _, _, _, _, _, _, _, _, by rw [q], hw q, rY_up hy (by omega)⟩
  · obtain ⟨w, hw1, rfl, hw3⟩ := hy
    obtain ⟨yci', ysz', k1, k2⟩ := x_copyF ha hc ynt (nI w) yci ysz
    have hlv : ylv = nI (w + 1) → dL n z G yfl ylk := fun e => absurd e (vI_ne hw3.1 (by omega) (by omega))
    obtain ⟨dp', fp', ylv', ysv', ypr', yfl', ycs', yct', yav', ydd', yca', yfs', yfb', ylk', ymb', ynb', yra', j1, j2, j3⟩ := x_wl (dp := dp) (fp := fp) ha k2 hN (v := w + 1) (by omega) hlv (vK_up hw3 (by omega))
    rw [if_pos q, k1, e_b4, nI_1, j1, e_b1, e_u17, e_b1]
    exact ⟨dp', fp', _, _, _, _, _, _, _, _, _, _, _, _, _, _, _, _, _, _, _, rfl, j2, w + 1, by omega, rfl, j3⟩
/-! the reference finds every part -/
theorem m_sh30 (ha : aP n z G) (hm : mP n z G p) (hN : 2000 ≤ N) (c0 l0 : Int32) (cf fi lb rn wo : Nat → Int32) : ∃ (c0' l0' : Int32) (cf' fi' lb' rn' wo' : Nat → Int32), lp_X7_share_30 N p (nI n) N 0 c0 l0 cf fi lb rn wo = some (c0', l0', cf', fi', lb', rn', wo') ∧ ∀ P, P < 2 ^ n → wo' P = nI (alN n z G P) := by
  have h8 := ha.1
  have h256 := pw_256 h8
  have main := lp_up (fun m i (t : Int32 × Int32 × (Nat → Int32) × (Nat → Int32) × (Nat → Int32) × (Nat → Int32) × (Nat → Int32)) => lp_X7_share_30 N p (nI n) m (nI i) t.1 t.2.1 t.2.2.1 t.2.2.2.1 t.2.2.2.2.1 t.2.2.2.2.2.1 t.2.2.2.2.2.2) (2 ^ n) (fun i t => ∀ P, P < i → t.2.2.2.2.2.2 P = nI (alN n z G P)) (fun t => ∀ P, P < 2 ^ n → t.2.2.2.2.2.2 P = nI (alN n z G P))
    (fun m t w => ⟨t, by
      simp only [lp_X7_share_30]
      rw [pt_two n (by omega), if_pos (nI_le (Nat.le_refl _) (by omega))], w⟩)
    (fun m i t hi w => by
      obtain ⟨c1, l1, cf1, fi1, lb1, rn1, a1, a2, a3⟩ := m_findC ha hm (L := i) (by omega) hN t.1 t.2.1 t.2.2.1 t.2.2.2.1 t.2.2.2.2.1 t.2.2.2.2.2.1
      have hal := m_many (TC_ok ha (L := i) (by omega)).2.2 (fun r hr => (a3 r hr).1) hN
      refine Or.inr ⟨(c1, l1, cf1, fi1, lb1, rn1, upd t.2.2.2.2.2.2 i (nI (alN n z G i))), fun P hP => ?_, ?_⟩
      · show upd t.2.2.2.2.2.2 i (nI (alN n z G i)) P = _
        by_cases e : P = i
        · rw [e, upd_s]
        · rw [upd_n _ _ e]; exact w P (by omega)
      · simp only [lp_X7_share_30]
        rw [pt_two n (by omega), if_neg (nI_ge hi (by omega)), a1, e_b6, hal, e_b1, e_wrI _ _ _ (by omega) (by omega), nI_1, e_nm]
        rfl)
    N 0 (c0, l0, cf, fi, lb, rn, wo) (Nat.zero_le _) (by omega) (fun P hP => by omega)
  obtain ⟨t, k1, k2⟩ := main
  exact ⟨_, _, _, _, _, _, _, k1, k2⟩
/-- the sum of the increases -/
noncomputable def shS (n : Nat) (z : Nat → Nat) (G : Nat → Nat → Nat) (a : Nat) : Nat → Int32
  | 0 => 0
  | P + 1 => if P.testBit a = true then shS n z G a P else shS n z G a P + (nI (facN (pc P)) * nI (facN (n - 1 - pc P))) * (nI (alN n z G (P ||| 2 ^ a)) - nI (alN n z G P))
theorem shS_s (a P : Nat) : shS n z G a (P + 1) = if P.testBit a = true then shS n z G a P else shS n z G a P + (nI (facN (pc P)) * nI (facN (n - 1 - pc P))) * (nI (alN n z G (P ||| 2 ^ a)) - nI (alN n z G P)) := rfl
theorem x_sh42 (h8 : n ≤ 8) (hw : wK n z G fp dp) (hN : 2000 ≤ N) {a : Nat} (hA : a < n) : lp_X6_share_42 N (nI n) ((1 : Int32) <<< (nI a &&& 31)) fp N 0 0 = some (shS n z G a (2 ^ n)) := by
  have h256 := pw_256 h8
  have h1 := pw_1 n
  have main := lp_up (fun m i (t : Int32) => lp_X6_share_42 N (nI n) ((1 : Int32) <<< (nI a &&& 31)) fp m t (nI i)) (2 ^ n) (fun i t => t = shS n z G a i) (fun t => t = shS n z G a (2 ^ n))
    (fun m t w => ⟨t, by
      simp only [lp_X6_share_42]
      by_cases q : (256 : Int32) ≤ nI (2 ^ n)
      · rw [if_pos q]
      · rw [if_neg q, pt_two n (by omega), if_pos (nI_le (Nat.le_refl _) (by omega))], w⟩)
    (fun m i t hi w => by
      refine Or.inr ⟨shS n z G a (i + 1), rfl, ?_⟩
      obtain ⟨o1, o2⟩ := pt_own a (by omega) i (by omega)
      simp only [lp_X6_share_42]
      rw [if_neg (show ¬ (256 : Int32) ≤ nI i from nI_ge (b := 256) (by omega) (by omega)), pt_two n (by omega), if_neg (nI_ge hi (by omega)), shS_s, w]
      cases hb : i.testBit a with
      | true =>
        rw [hb, if_pos rfl] at o2
        rw [if_neg o2, nI_1, e_nm, if_pos rfl]
      | false =>
        rw [hb, if_neg (by decide)] at o2
        have hpc := pc_lt h8 hi hA hb
        have hor : i ||| 2 ^ a < 2 ^ n := Nat.or_lt_two_pow hi (Nat.pow_lt_pow_right (by omega) hA)
        rw [if_pos o2, x_pc (by omega), e_b1, x_fac hN (by omega), e_b1, n_m1 (by omega), pk_sub (by omega), x_fac hN (by omega), e_b1, e_nm, o1, e_rd _ _ (by omega) (by omega), (hw _ hor).1, e_rd _ _ (by omega) (by omega), (hw _ hi).1, nI_1, e_nm, e_nm, if_neg (by decide)])
    N 0 0 (Nat.zero_le _) (by omega) rfl
  obtain ⟨t, k1, k2⟩ := main
  rw [show lp_X6_share_42 N (nI n) ((1 : Int32) <<< (nI a &&& 31)) fp N 0 0 = some t from k1, k2]
theorem m_sh71 (h8 : n ≤ 8) {wo : Nat → Int32} (hw : ∀ P, P < 2 ^ n → wo P = nI (alN n z G P)) (hN : 2000 ≤ N) {a : Nat} (hA : a < n) : lp_X7_share_71 N (nI a) (nI n) wo N 0 0 = some (shS n z G a (2 ^ n)) := by
  have h256 := pw_256 h8
  have main := lp_up (fun m i (t : Int32) => lp_X7_share_71 N (nI a) (nI n) wo m t (nI i)) (2 ^ n) (fun i t => t = shS n z G a i) (fun t => t = shS n z G a (2 ^ n))
    (fun m t w => ⟨t, by
      simp only [lp_X7_share_71]
      rw [pt_two n (by omega), if_pos (nI_le (Nat.le_refl _) (by omega))], w⟩)
    (fun m i t hi w => by
      refine Or.inr ⟨shS n z G a (i + 1), rfl, ?_⟩
      obtain ⟨o1, o2⟩ := pt_own a (by omega) i (by omega)
      simp only [lp_X7_share_71]
      rw [pt_two n (by omega), if_neg (nI_ge hi (by omega)), m_ones hN (by omega), e_b1, m_has (by omega) (by omega), e_b1, shS_s, w]
      cases hb : i.testBit a with
      | true => rw [if_neg bt1, i_p0, nI_1, e_nm, e_nm, if_pos rfl]
      | false =>
        have hpc := pc_lt h8 hi hA hb
        have hor : i ||| 2 ^ a < 2 ^ n := Nat.or_lt_two_pow hi (Nat.pow_lt_pow_right (by omega) hA)
        rw [if_pos bt0, m_fac hN (by omega), e_b1, n_m1 (by omega), pk_sub (by omega), m_fac hN (by omega), e_b1, o1, e_rd _ _ (by omega) (by omega), hw _ hor, e_rd _ _ (by omega) (by omega), hw _ hi, nI_1, e_nm, e_nm, if_neg (by decide)])
    N 0 0 (Nat.zero_le _) (by omega) rfl
  obtain ⟨t, k1, k2⟩ := main
  rw [show lp_X7_share_71 N (nI a) (nI n) wo N 0 0 = some t from k1, k2]
theorem fac_b : ∀ k, k < 9 → 0 < facN k ∧ facN k < 2 ^ 27 := by decide +kernel
theorem pow_b : ∀ k, k < 9 → 0 < 10 ^ k ∧ 10 ^ k < 2 ^ 27 := by decide +kernel
theorem rN_w {v : Nat} {fp' dp' : Nat → Int32} (hv : v ≤ B) (ha : aP n z G) (hc : cP n z G (nI n) sz ci) (hm : mP n z G pg) (h7 : sK n z G (nI v) s) (h8 : vK v s) (hw : wK n z G fp' dp') : rN B (nI n) (nI v) ci sz s (nI v) fp' dp' pg := ⟨n, z, G, v, hv, rfl, ha, rfl, hc, hm, h7, h8, vI_s v, fun _ => hw⟩
theorem s_share {ylv ysv ypr yfl ycs yct yav ydd : Int32} {yca yfs yfb ylk ymb ynb yra : Nat → Int32} (hn : rN B nt ver ci sz s pv fp dp pg) (hy : rY B yver (ylv, ysv, ypr, yfl, ycs, yct, yav, ydd, yca, yfs, yfb, ylk, ymb, ynb, yra)) (hB : B < 2 ^ 28) (hN : 2000 ≤ N) (t0 p1 p2 ynt : Int32) (yci : Nat → Int64) (ysz wo : Nat → Int32) :
    ∃ (a pv' : Int32) (dp' fp' : Nat → Int32) (ylv' ysv' ypr' yfl' ycs' yct' yav' ydd' : Int32) (yca' yfs' yfb' ylk' ymb' ynb' : Nat → Int32) (ynt' yver' : Int32) (yci' : Nat → Int64) (ysz' yra' : Nat → Int32) (c0' l0' : Int32) (cf' fi' lb' rn' wo' : Nat → Int32),
      f_X6_share N pv dp fp nt ver ci sz ylv ysv ypr yfl ycs yct yav ydd yca yfs yfb ylk ymb ynb ynt yver yci ysz yra p1 p2 = some (a, pv', dp', fp', ylv', ysv', ypr', yfl', ycs', yct', yav', ydd', yca', yfs', yfb', ylk', ymb', ynb', ynt', yver', yci', ysz', yra') ∧
      f_X7_share N t0 c0 l0 cf0 fi0 lb0 pg rn0 wo p1 p2 = some (a, 0, c0', l0', cf', fi', lb', rn', wo') ∧ rN B nt ver ci sz s pv' fp' dp' pg ∧ rY (B + 1) yver' (ylv', ysv', ypr', yfl', ycs', yct', yav', ydd', yca', yfs', yfb', ylk', ymb', ynb', yra') := by
  have hn0 := hn
  have hy0 := rY_up hy (show B ≤ B + 1 by omega)
  obtain ⟨n, z, G, v, h1, rfl, ha, rfl, hc, hm, h7, h8, h9, h10⟩ := hn
  have hn8 := ha.1
  generalize hX : f_X6_share _ _ _ _ _ _ _ _ _ _ _ _ _ _ _ _ _ _ _ _ _ _ _ _ _ _ _ _ _ = X
  generalize hY : f_X7_share _ _ _ _ _ _ _ _ _ _ _ _ = Y
  unfold f_X6_share at hX
  unfold f_X7_share at hY
  rw [rd0, hm.1, x_inr p1 (by omega), e_b1] at hY
  by_cases q : 0 ≤ p1.toInt ∧ p1.toInt < n
  · obtain ⟨dp', fp', ylv', ysv', ypr', yfl', ycs', yct', yav', ydd', yca', yfs', yfb', ylk', ymb', ynb', ynt', yver', yci', ysz', yra', w1, w2, w3⟩ := s_weigh h1 hB ha hc h9 h10 hy hN ynt yci ysz
    obtain ⟨c1, l1, cf1, fi1, lb1, rn1, wo1, r1, r2⟩ := m_sh30 ha hm hN c0 l0 cf0 fi0 lb0 rn0 wo
    rw [(x_hasNote hn8).1 q, e_b1, if_pos (by decide), w1, e_b22, show f_X1_notes (nI n) = some (nI n) from rfl, e_b1, e_nm] at hX
    rw [if_pos q, if_pos (by decide), r1, e_b1, e_u7] at hY
    obtain ⟨a, hA, rfl⟩ := i_of q.1 q.2
    obtain ⟨fb1, fb2⟩ := fac_b n (by omega)
    obtain ⟨an, g1, g2⟩ := frac_eq hN fb1 fb2 (shS n z G a (2 ^ n)) p2
    rw [x_sh42 hn8 w2 hN hA, e_b1, e_u1, x_fac hN hn8, e_b1, g1, e_b1] at hX
    rw [m_sh71 hn8 r2 hN hA, e_b1, e_u1, m_fac hN hn8, e_b1, g2, e_b1] at hY
    subst hX hY
    exact ⟨_, _, _, _, _, _, _, _, _, _, _, _, _, _, _, _, _, _, _, _, _, _, _, _, _, _, _, _, _, _, rfl, rfl, rN_w h1 ha hc hm h7 h8 w2, w3⟩
  · rw [(x_hasNote hn8).2 q, e_b1, if_neg (fun j => j rfl)] at hX
    rw [if_neg q, if_neg (fun j => j rfl)] at hY
    subst hX hY
    exact ⟨_, _, _, _, _, _, _, _, _, _, _, _, _, _, _, _, _, _, _, _, _, _, _, _, _, _, _, _, _, _, rfl, rfl, hn0, hy0⟩
/-! the probability that nothing is dead -/
noncomputable def loS (n : Nat) (z : Nat → Nat) (G : Nat → Nat → Nat) (x : Nat) : Nat → Int32
  | 0 => 0
  | P + 1 => if ddN n z G P = 0 then loS n z G x P + nI ((10 - x) ^ pc P) * nI (x ^ (n - pc P)) else loS n z G x P
theorem loS_s (x P : Nat) : loS n z G x (P + 1) = if ddN n z G P = 0 then loS n z G x P + nI ((10 - x) ^ pc P) * nI (x ^ (n - pc P)) else loS n z G x P := rfl
theorem ten_x {x : Nat} (h : x ≤ 10) : (10 : Int32) - nI x = nI (10 - x) := by rw [show (10 : Int32) = nI 10 from rfl, pk_sub h]
theorem x_lo34 (h8 : n ≤ 8) (hw : wK n z G fp dp) (hN : 2000 ≤ N) {x : Nat} (hx : x ≤ 10) : lp_X6_lost_34 N (nI x) (nI n) dp N 0 0 = some (loS n z G x (2 ^ n)) := by
  have h256 := pw_256 h8
  have main := lp_up (fun m i (t : Int32) => lp_X6_lost_34 N (nI x) (nI n) dp m t (nI i)) (2 ^ n) (fun i t => t = loS n z G x i) (fun t => t = loS n z G x (2 ^ n))
    (fun m t w => ⟨t, by
      simp only [lp_X6_lost_34]
      by_cases q : (256 : Int32) ≤ nI (2 ^ n)
      · rw [if_pos q]
      · rw [if_neg q, pt_two n (by omega), if_pos (nI_le (Nat.le_refl _) (by omega))], w⟩)
    (fun m i t hi w => by
      refine Or.inr ⟨loS n z G x (i + 1), rfl, ?_⟩
      have hd : ddN n z G i ≤ 32 := fb_ct_le _ 32
      have hpc := pc_le h8 hi
      simp only [lp_X6_lost_34]
      rw [if_neg (show ¬ (256 : Int32) ≤ nI i from nI_ge (b := 256) (by omega) (by omega)), pt_two n (by omega), if_neg (nI_ge hi (by omega)), e_rd _ _ (by omega) (by omega), (hw i hi).2, loS_s, w]
      by_cases q : ddN n z G i = 0
      · rw [if_pos (by rw [q]; rfl), if_pos q, x_pc (by omega), e_b1, ten_x hx, x_pow hN (by omega), e_b1, pk_sub hpc, x_pow hN (by omega), e_b1, e_nm, nI_1, e_nm]
      · rw [if_neg (nI_ne0 (by omega) (by omega)), if_neg q, nI_1, e_nm])
    N 0 0 (Nat.zero_le _) (by omega) rfl
  obtain ⟨t, k1, k2⟩ := main
  rw [show lp_X6_lost_34 N (nI x) (nI n) dp N 0 0 = some t from k1, k2]
theorem m_lo33 (ha : aP n z G) (hm : mP n z G p) (hN : 2000 ≤ N) {x : Nat} (hx : x ≤ 10) (c0 l0 : Int32) (cf fi lb rn : Nat → Int32) : ∃ (c0' l0' : Int32) (cf' fi' lb' rn' : Nat → Int32), lp_X7_lost_33 N p (nI x) (nI n) N 0 0 c0 l0 cf fi lb rn = some (loS n z G x (2 ^ n), c0', l0', cf', fi', lb', rn') := by
  have h8 := ha.1
  have h256 := pw_256 h8
  have main := lp_up (fun m i (t : Int32 × Int32 × Int32 × (Nat → Int32) × (Nat → Int32) × (Nat → Int32) × (Nat → Int32)) => lp_X7_lost_33 N p (nI x) (nI n) m t.1 (nI i) t.2.1 t.2.2.1 t.2.2.2.1 t.2.2.2.2.1 t.2.2.2.2.2.1 t.2.2.2.2.2.2) (2 ^ n) (fun i t => t.1 = loS n z G x i) (fun t => t.1 = loS n z G x (2 ^ n))
    (fun m t w => ⟨t, by
      simp only [lp_X7_lost_33]
      rw [pt_two n (by omega), if_pos (nI_le (Nat.le_refl _) (by omega))], w⟩)
    (fun m i t hi w => by
      obtain ⟨c1, l1, cf1, fi1, lb1, rn1, a1, a2, a3⟩ := m_findC ha hm (L := i) (by omega) hN t.2.1 t.2.2.1 t.2.2.2.1 t.2.2.2.2.1 t.2.2.2.2.2.1 t.2.2.2.2.2.2
      obtain ⟨t1, t2, t3⟩ := TC_ok ha (L := i) (by omega)
      have hal := m_many t3 (fun r hr => (a3 r hr).1) hN
      have hre := m_refs ha hm (L := i) (by omega) hN
      have hpc := pc_le h8 hi
      have hsum : fb_ct (fun q => lf n z i q) 32 = alN n z G i + ddN n z G i := by
        rw [RS_both (F := (TC n z G i).2.1), RS_alive t2]
        rfl
      have hle := fb_ct_le (fun q => lf n z i q) 32
      have hle2 : alN n z G i ≤ 32 := fb_ct_le _ 32
      refine Or.inr ⟨(loS n z G x (i + 1), c1, l1, cf1, fi1, lb1, rn1), rfl, ?_⟩
      have hal' : f_X7_manyFound N fi1 = some (nI (alN n z G i)) := hal
      simp only [lp_X7_lost_33]
      rw [pt_two n (by omega), if_neg (nI_ge hi (by omega)), a1, e_b6, hal', e_b1, hre, e_b1, w, loS_s]
      unfold j_X7_lost_72
      by_cases q : ddN n z G i = 0
      · rw [if_neg (show ¬ ¬ nI (alN n z G i) = nI (fb_ct (fun q => lf n z i q) 32) from fun j => j (by rw [hsum, q]; rfl)), if_neg (show ¬ (1 : Int32) = 0 by decide), m_ones hN (by omega), e_b1, ten_x hx, m_pow hN (by omega), e_b1, e_b1, pk_sub hpc, m_pow hN (by omega), e_b1, nI_1, e_nm, e_nm, if_pos q]
      · rw [if_pos (show ¬ nI (alN n z G i) = nI (fb_ct (fun q => lf n z i q) 32) from fun j => q (by have := (nI_eq (by omega) (by omega)).mp j; omega)), if_pos rfl, i_p0, nI_1, e_nm, e_nm, if_neg q])
    N 0 (0, c0, l0, cf, fi, lb, rn) (Nat.zero_le _) (by omega) rfl
  obtain ⟨t, k1, k2⟩ := main
  refine ⟨t.2.1, t.2.2.1, t.2.2.2.1, t.2.2.2.2.1, t.2.2.2.2.2.1, t.2.2.2.2.2.2, ?_⟩
  rw [show lp_X7_lost_33 N p (nI x) (nI n) N 0 0 c0 l0 cf fi lb rn = some t from k1, ← k2]
theorem s_lost {ylv ysv ypr yfl ycs yct yav ydd : Int32} {yca yfs yfb ylk ymb ynb yra : Nat → Int32} (hn : rN B nt ver ci sz s pv fp dp pg) (hy : rY B yver (ylv, ysv, ypr, yfl, ycs, yct, yav, ydd, yca, yfs, yfb, ylk, ymb, ynb, yra)) (hB : B < 2 ^ 28) (hN : 2000 ≤ N) (t0 p1 p2 ynt : Int32) (yci : Nat → Int64) (ysz : Nat → Int32) :
    ∃ (a pv' : Int32) (dp' fp' : Nat → Int32) (ylv' ysv' ypr' yfl' ycs' yct' yav' ydd' : Int32) (yca' yfs' yfb' ylk' ymb' ynb' : Nat → Int32) (ynt' yver' : Int32) (yci' : Nat → Int64) (ysz' yra' : Nat → Int32) (c0' l0' : Int32) (cf' fi' lb' rn' : Nat → Int32),
      f_X6_lost N pv dp fp nt ver ci sz ylv ysv ypr yfl ycs yct yav ydd yca yfs yfb ylk ymb ynb ynt yver yci ysz yra p1 p2 = some (a, pv', dp', fp', ylv', ysv', ypr', yfl', ycs', yct', yav', ydd', yca', yfs', yfb', ylk', ymb', ynb', ynt', yver', yci', ysz', yra') ∧
      f_X7_lost N t0 c0 l0 cf0 fi0 lb0 pg rn0 p1 p2 = some (a, 0, c0', l0', cf', fi', lb', rn') ∧ rN B nt ver ci sz s pv' fp' dp' pg ∧ rY (B + 1) yver' (ylv', ysv', ypr', yfl', ycs', yct', yav', ydd', yca', yfs', yfb', ylk', ymb', ynb', yra') := by
  have hn0 := hn
  have hy0 := rY_up hy (show B ≤ B + 1 by omega)
  obtain ⟨n, z, G, v, h1, rfl, ha, rfl, hc, hm, h7, h8, h9, h10⟩ := hn
  have hn8 := ha.1
  generalize hX : f_X6_lost _ _ _ _ _ _ _ _ _ _ _ _ _ _ _ _ _ _ _ _ _ _ _ _ _ _ _ _ _ = X
  generalize hY : f_X7_lost _ _ _ _ _ _ _ _ _ _ _ = Y
  unfold f_X6_lost at hX
  unfold f_X7_lost at hY
  rcases in_r p1 (b := 10) (by omega) with ⟨x, hx, rfl, a1, a2, a3, a4⟩ | ⟨a1, a2⟩
  · obtain ⟨dp', fp', ylv', ysv', ypr', yfl', ycs', yct', yav', ydd', yca', yfs', yfb', ylk', ymb', ynb', ynt', yver', yci', ysz', yra', w1, w2, w3⟩ := s_weigh h1 hB ha hc h9 h10 hy hN ynt yci ysz
    obtain ⟨c1, l1, cf1, fi1, lb1, rn1, r1⟩ := m_lo33 ha hm hN hx c0 l0 cf0 fi0 lb0 rn0
    obtain ⟨fb1, fb2⟩ := pow_b n (by omega)
    obtain ⟨an, g1, g2⟩ := frac_eq hN fb1 fb2 (loS n z G x (2 ^ n)) p2
    rw [if_neg a2, if_pos (show nI x ≤ 10 from a3), w1, e_b22, show f_X1_notes (nI n) = some (nI n) from rfl, e_b1, x_lo34 hn8 w2 hN hx, e_b1, e_u1, show f_X6_power N 10 (nI n) = _ from x_pow hN (b := 10) hn8, e_b1, g1, e_b1] at hX
    rw [show f_X7_in (nI x).toInt64 0 10 = some 1 from a1, e_b1, if_pos (by decide), rd0, hm.1, r1, e_b1, e_u7, show f_X7_power N 10 (nI n) = _ from m_pow hN (b := 10) hn8, e_b1, g2, e_b1] at hY
    subst hX hY
    exact ⟨_, _, _, _, _, _, _, _, _, _, _, _, _, _, _, _, _, _, _, _, _, _, _, _, _, _, _, _, _, rfl, rfl, rN_w h1 ha hc hm h7 h8 w2, w3⟩
  · rw [show f_X7_in p1.toInt64 0 10 = some 0 from a1, e_b1, if_neg (fun j => j rfl)] at hY
    subst hY
    rcases a2 with a2 | ⟨a2, a3, a4⟩
    · rw [if_pos a2] at hX
      subst hX
      exact ⟨_, _, _, _, _, _, _, _, _, _, _, _, _, _, _, _, _, _, _, _, _, _, _, _, _, _, _, _, _, rfl, rfl, hn0, hy0⟩
    · rw [if_neg a2, if_neg (show ¬ p1 ≤ 10 from a4)] at hX
      subst hX
      exact ⟨_, _, _, _, _, _, _, _, _, _, _, _, _, _, _, _, _, _, _, _, _, _, _, _, _, _, _, _, _, rfl, rfl, hn0, hy0⟩
end
