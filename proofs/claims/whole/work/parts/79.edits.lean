/-! the calls keep, again, put, cut, move, respell -/
section
variable {n : Nat} {z : Nat → Nat} {G : Nat → Nat → Nat} {p sz : Nat → Int32} {ci : Nat → Int64} {N B : Nat} {nt ver lv sv pr cs0 ct av dd fl : Int32} {fd ns ss bk : Nat → Int32} {sc : Nat → Int64} {ca fs fb mb nb ra lk : Nat → Int32} {s : SV} {pv ud np dg : Int32} {fp dp pg f2 n2 s2 ik kp : Nat → Int32} {c2 : Nat → Int64}
theorem m_kp26 (hN : 2000 ≤ N) {d : Nat} (hd : d < 2) : ∃ g, lp_X7_keep_26 pg (nI d) N 0 kp = some g ∧ ∀ j, g j = if 265 * d ≤ j ∧ j < 265 * d + 265 then pg (j - 265 * d) else kp j := by
  have main := lp_up (fun m i (s : Nat → Int32) => lp_X7_keep_26 pg (nI d) m (nI i) s) 265 (fun i s => ∀ j, s j = if 265 * d ≤ j ∧ j < 265 * d + i then pg (j - 265 * d) else kp j) (fun s => ∀ j, s j = if 265 * d ≤ j ∧ j < 265 * d + 265 then pg (j - 265 * d) else kp j)
    (fun m s w => ⟨s, by
      simp only [lp_X7_keep_26]
      rw [if_pos (show (265 : Int32) ≤ nI 265 from by decide)], w⟩)
    (fun m i s hi w => by
      refine Or.inr ⟨upd s (265 * d + i) (pg i), fun j => ?_, ?_⟩
      · by_cases e : j = 265 * d + i
        · subst e
          rw [upd_s, if_pos (by omega), show 265 * d + i - 265 * d = i by omega]
        · rw [upd_n _ _ e, w j]
          by_cases q : 265 * d ≤ j ∧ j < 265 * d + i
          · rw [if_pos q, if_pos (by omega)]
          · rw [if_neg q, if_neg (by omega)]
      · simp only [lp_X7_keep_26]
        rw [if_neg (show ¬ (265 : Int32) ≤ nI i from nI_ge (b := 265) hi (by omega)), e_rd _ _ hi (by omega), show (265 : Int32) = nI 265 from rfl, pk_mul, nI_add, e_wrI _ _ _ (by omega) (by omega), e_nm, nI_1])
    N 0 kp (by omega) (by omega) (fun j => by rw [if_neg (by omega)])
  exact main
theorem m_ag31 {q : Nat → Int32} (hN : 2000 ≤ N) {d : Nat} (hd : d < 2) : ∃ g, lp_X7_again_31 kp (nI d) N 0 q = some g ∧ ∀ j, j < 265 → g j = kp (265 * d + j) := by
  have main := lp_up (fun m i (s : Nat → Int32) => lp_X7_again_31 kp (nI d) m (nI i) s) 265 (fun i s => ∀ j, j < i → s j = kp (265 * d + j)) (fun s => ∀ j, j < 265 → s j = kp (265 * d + j))
    (fun m s w => ⟨s, by
      simp only [lp_X7_again_31]
      rw [if_pos (show (265 : Int32) ≤ nI 265 from by decide)], w⟩)
    (fun m i s hi w => by
      refine Or.inr ⟨upd s i (kp (265 * d + i)), fun j hj => ?_, ?_⟩
      · by_cases e : j = i
        · rw [e, upd_s]
        · rw [upd_n _ _ e]; exact w j (by omega)
      · simp only [lp_X7_again_31]
        rw [if_neg (show ¬ (265 : Int32) ≤ nI i from nI_ge (b := 265) hi (by omega)), show (265 : Int32) = nI 265 from rfl, pk_mul, nI_add, e_rd _ _ (by omega) (by omega), e_wrI _ _ _ hi (by omega), e_nm, nI_1])
    N 0 q (by omega) (by omega) (fun j hj => by omega)
  exact main
/-- 0 or 1, as the class asks it -/
theorem two_cases (p1 : Int32) : (∃ d, d < 2 ∧ p1 = nI d) ∨ (¬ (p1 = 0 ∨ p1 = 1) ∧ (p1 < 0 ∨ (¬ p1 < 0 ∧ ¬ p1 < 2))) := by
  by_cases w : p1 = 0 ∨ p1 = 1
  · rcases w with rfl | rfl
    · exact Or.inl ⟨0, by omega, rfl⟩
    · exact Or.inl ⟨1, by omega, rfl⟩
  · refine Or.inr ⟨w, ?_⟩
    rw [i_eq, i_eq] at w
    rw [i_lt, i_lt]
    have e0 : (0 : Int32).toInt = 0 := by decide
    have e1 : (1 : Int32).toInt = 1 := by decide
    have e2 : (2 : Int32).toInt = 2 := by decide
    omega
theorem nI_01 {d : Nat} (h : d < 2) : nI d = 0 ∨ nI d = 1 := by
  rcases (show d = 0 ∨ d = 1 by omega) with rfl | rfl
  · exact Or.inl rfl
  · exact Or.inr rfl
theorem s_keep (hn : rN B nt ver ci sz s pv fp dp pg) (hk : kR f2 n2 s2 c2 ik kp) (hN : 2000 ≤ N) (t0 p1 : Int32) : ∃ a c2' f2' n2' s2' ik' kp', f_X6_keep nt ci sz (nI 2) c2 f2 n2 s2 p1 = some (a, c2', f2', n2', s2') ∧ f_X7_keep N t0 ik kp pg p1 = some (a, 0, ik', kp') ∧ kR f2' n2' s2' c2' ik' kp' := by
  obtain ⟨n, z, G, v, h1, rfl, ha, rfl, hc, hm, h7, h8, h9, h10⟩ := hn
  generalize hX : f_X6_keep _ _ _ _ _ _ _ _ _ = X
  generalize hY : f_X7_keep _ _ _ _ _ _ = Y
  unfold f_X6_keep at hX
  unfold f_X7_keep at hY
  rcases two_cases p1 with ⟨d, hd, rfl⟩ | ⟨w, w2⟩
  · obtain ⟨g, g1, g2⟩ := m_kp26 (kp := kp) (pg := pg) hN hd
    have hs := x_store (P := 2) (s := d) (n := n) (sz := sz) (ci := ci) (fd := f2) (ns := n2) (ss := s2) (sc := c2) hd (by omega)
    rw [if_neg (nI_pos (by omega)), if_pos (show nI d < 2 from nI_lt (b := 2) hd (by omega)), show f_X3_store (nI 2) 64 c2 2 f2 2 n2 16 s2 (nI n) ci sz (nI d) = _ from hs, e_b4, show f_X1_notes (nI n) = some (nI n) from rfl, e_b1] at hX
    rw [(x_in01 _).1 (nI_01 hd), e_b1, if_pos (by decide), e_wrZ _ _ _ hd (by omega), e_nar1, g1, e_b1, e_u1, rd0, hm.1] at hY
    subst hX hY
    refine ⟨_, _, _, _, _, _, _, rfl, rfl, fun t ht => ?_⟩
    by_cases e : t = d
    · subst e
      refine Or.inr ⟨upd_s _ _ _, upd_s _ _ _, n, z, G, ha, shP_new ha hc t, mP_ext ha hm (fun j hj => ?_)⟩
      rw [g2, if_pos (by omega), show 265 * t + j - 265 * t = j by omega]
    · rcases hk t ht with ⟨k1, k2⟩ | ⟨k1, k2, n', z', G', k3, k4, k5⟩
      · exact Or.inl ⟨by rw [upd_n _ _ e]; exact k1, by rw [upd_n _ _ e]; exact k2⟩
      · refine Or.inr ⟨by rw [upd_n _ _ e]; exact k1, by rw [upd_n _ _ e]; exact k2, n', z', G', k3, shP_old k3 k4 e, mP_ext k3 k5 (fun j hj => ?_)⟩
        rw [g2, if_neg (by omega)]
  · rw [(x_in01 _).2 w, e_b1, if_neg (fun k => k rfl)] at hY
    subst hY
    rcases w2 with w2 | ⟨w2, w3⟩
    · rw [if_pos w2] at hX
      subst hX
      exact ⟨_, _, _, _, _, _, _, rfl, rfl, hk⟩
    · rw [if_neg w2, if_neg w3] at hX
      subst hX
      exact ⟨_, _, _, _, _, _, _, rfl, rfl, hk⟩
theorem s_again (hn : rN B nt ver ci sz s pv fp dp pg) (hB : B < 2 ^ 30) (hu : uR ud np dg fd ns ss sc bk) (hk : kR f2 n2 s2 c2 ik kp) (hN : 2000 ≤ N) (t0 p1 : Int32) : ∃ a ud' nt' ver' ci' sz' dg' pg', f_X6_again ud nt ver ci sz (nI 2) c2 f2 n2 s2 p1 = some (a, ud', nt', ver', ci', sz') ∧ f_X7_again N t0 dg ik kp pg p1 = some (a, 0, dg', pg') ∧ rN (B + 1) nt' ver' ci' sz' s pv fp dp pg' ∧ uR ud' np dg' fd ns ss sc bk := by
  have hn2 := rN_up hn (show B ≤ B + 1 by omega)
  obtain ⟨n, z, G, v, h1, rfl, ha, rfl, hc, hm, h7, h8, h9, h10⟩ := hn
  generalize hX : f_X6_again _ _ _ _ _ _ _ _ _ _ _ = X
  generalize hY : f_X7_again _ _ _ _ _ _ _ = Y
  unfold f_X6_again at hX
  unfold f_X7_again at hY
  rcases two_cases p1 with ⟨d, hd, rfl⟩ | ⟨w, w2⟩
  · rw [if_neg (nI_pos (by omega)), if_pos (show nI d < 2 from nI_lt (b := 2) hd (by omega))] at hX
    rw [(x_in01 _).1 (nI_01 hd), e_b1, if_pos (by decide), e_rd _ _ hd (by omega)] at hY
    unfold f_X3_holds at hX
    rw [if_neg (nI_pos (by omega)), if_neg (nI_ge hd (by omega)), e_rd _ _ hd (by omega)] at hX
    rcases hk d hd with ⟨k1, k2⟩ | ⟨k1, k2, n', z', G', k3, k4, k5⟩
    · rw [k1, if_pos rfl, e_b1, if_neg (fun k => k rfl)] at hX
      rw [k2, if_neg (fun k => k rfl)] at hY
      subst hX hY
      exact ⟨_, _, _, _, _, _, _, _, rfl, rfl, hn2, hu⟩
    · obtain ⟨ci', sz', f1, f2'⟩ := x_fetch (P := 2) hd (by omega) k3 k4 (nI n) (nI v) ci sz
      obtain ⟨g, g1, g2⟩ := m_ag31 (kp := kp) (q := pg) hN hd
      have hm' : mP n' z' G' g := mP_ext k3 k5 g2
      rw [k1, if_neg (by decide), e_b1, if_pos (by decide), show f_X3_fetch (nI 2) 64 c2 2 f2 2 n2 16 s2 (nI n) (nI v) ci sz (nI d) = _ from f1, e_b4, show f_X1_notes (nI n') = some (nI n') from rfl, e_b1] at hX
      rw [k2, if_pos (by decide), g1, e_b1, e_u1, rd0, hm'.1] at hY
      subst hX hY
      exact ⟨_, _, _, _, _, _, _, _, rfl, rfl, rN_new h1 hB k3 f2' hm' h8 h9, uR_0 hu⟩
  · rw [(x_in01 _).2 w, e_b1, if_neg (fun k => k rfl)] at hY
    subst hY
    rcases w2 with w2 | ⟨w2, w3⟩
    · rw [if_pos w2] at hX
      subst hX
      exact ⟨_, _, _, _, _, _, _, _, rfl, rfl, hn2, hu⟩
    · rw [if_neg w2, if_neg w3] at hX
      subst hX
      exact ⟨_, _, _, _, _, _, _, _, rfl, rfl, hn2, hu⟩
theorem s_undoR (hn : rN B nt ver ci sz s pv fp dp pg) (hB : B < 2 ^ 30) (hu : uR ud np dg fd ns ss sc bk) (hN : 10000 ≤ N) (t0 : Int32) : ∃ a ud' np' nt' ver' ci' sz' dg' pg', f_X6_undo ud np nt ver ci sz (nI 14) sc fd ns ss = some (a, ud', np', nt', ver', ci', sz') ∧ f_X7_undo N t0 dg bk pg = some (a, 0, dg', pg') ∧ rN (B + 1) nt' ver' ci' sz' s pv fp dp pg' ∧ uR ud' np' dg' fd ns ss sc bk := by
  have hn2 := rN_up hn (show B ≤ B + 1 by omega)
  rcases s_undo hN hu nt ver ci sz pg (t0 := t0) with ⟨e1, e2⟩ | ⟨a, np', n', z', G', ci', sz', pg', e1, e2, e3, e4, e5, e6⟩
  · exact ⟨_, _, _, _, _, _, _, _, _, e1, e2, hn2, hu⟩
  · obtain ⟨n, z, G, v, h1, rfl, ha, rfl, hc, hm, h7, h8, h9, h10⟩ := hn
    exact ⟨_, _, _, _, _, _, _, _, _, e1, e2, rN_new h1 hB e3 e4 e5 h8 h9, e6⟩
/-! mend is 0 or 1 -/
theorem x_mnd (x : Int32) : (x = 0 ∨ x = 1 → f_X6_isMend x = some 1) ∧ (¬ (x = 0 ∨ x = 1) → f_X6_isMend x = some 0) := by
  unfold f_X6_isMend
  constructor
  · rintro (rfl | rfl)
    · rw [if_pos rfl]
    · rw [if_neg (by decide), if_neg (fun k => k rfl)]
  · intro w
    rw [if_neg (fun k => w (Or.inl k)), if_pos (fun k => w (Or.inr k))]
theorem mnd_nI {x : Int32} (h : x = 0 ∨ x = 1) : ∃ md, md < 2 ∧ x = nI md := by
  rcases h with rfl | rfl
  · exact ⟨0, by omega, rfl⟩
  · exact ⟨1, by omega, rfl⟩
theorem s_cut (hn : rN B nt ver ci sz s pv fp dp pg) (hB : B < 2 ^ 30) (hu : uR ud np dg fd ns ss sc bk) (hN : 10000 ≤ N) (t0 p1 p2 : Int32) (rm : Nat → Int32) : ∃ a ud' np' nt' ver' ci' sz' sc' fd' ns' ss' dg' bk' pg' rm', f_X6_cut N ud np nt ver ci sz (nI 14) sc fd ns ss p1 p2 = some (a, ud', np', nt', ver', ci', sz', sc', fd', ns', ss') ∧ f_X7_cut N t0 dg bk pg rm p1 p2 = some (a, 0, dg', bk', pg', rm') ∧ rN (B + 1) nt' ver' ci' sz' s pv fp dp pg' ∧ uR ud' np' dg' fd' ns' ss' sc' bk' := by
  have hn2 := rN_up hn (show B ≤ B + 1 by omega)
  obtain ⟨n, z, G, v, h1, rfl, ha, rfl, hc, hm, h7, h8, h9, h10⟩ := hn
  have hn8 := ha.1
  generalize hX : f_X6_cut _ _ _ _ _ _ _ _ _ _ _ _ _ _ = X
  generalize hY : f_X7_cut _ _ _ _ _ _ _ _ = Y
  unfold f_X6_cut at hX
  unfold f_X7_cut at hY
  rw [rd0, hm.1, x_inr p1 (by omega), e_b1] at hY
  by_cases q : 0 ≤ p1.toInt ∧ p1.toInt < n
  · rw [(x_hasNote hn8).1 q, e_b1, if_pos (by decide)] at hX
    rw [if_pos q, if_pos (by decide)] at hY
    obtain ⟨a, hA, rfl⟩ := i_of q.1 q.2
    by_cases w : p2 = 0 ∨ p2 = 1
    · obtain ⟨ud', np', fd', ns', ss', sc', bk', k1, k2, k3⟩ := u_note ha hc hm hN hu
      rw [(x_mnd p2).1 w, e_b1, if_pos (by decide), k1, e_b6] at hX
      rw [(x_in01 p2).1 w, e_b1, if_pos (by decide), k2, e_b2] at hY
      obtain ⟨md, hmd, rfl⟩ := mnd_nI w
      obtain ⟨ci', sz', f1, f2⟩ := x_drop (ver := nI v) ha hc (N := N) (by omega) hA hmd
      obtain ⟨rm', p', f3, f4⟩ := m_cu ha hm (N := N) (by omega) hA hmd rm
      rw [f1, e_b4, show f_X1_notes (nI (n - 1)) = some (nI (n - 1)) from rfl, e_b1] at hX
      rw [f3, e_b2, rd0, f4.1] at hY
      subst hX hY
      exact ⟨_, _, _, _, _, _, _, _, _, _, _, _, _, _, _, rfl, rfl, rN_new h1 hB (cuA ha hA md) f2 f4 h8 h9, k3⟩
    · rw [(x_mnd p2).2 w, e_b1, if_neg (fun k => k rfl)] at hX
      rw [(x_in01 p2).2 w, e_b1, if_neg (fun k => k rfl)] at hY
      subst hX hY
      exact ⟨_, _, _, _, _, _, _, _, _, _, _, _, _, _, _, rfl, rfl, hn2, hu⟩
  · rw [(x_hasNote hn8).2 q, e_b1, if_neg (fun k => k rfl)] at hX
    rw [if_neg q, if_neg (fun k => k rfl)] at hY
    subst hX hY
    exact ⟨_, _, _, _, _, _, _, _, _, _, _, _, _, _, _, rfl, rfl, hn2, hu⟩
theorem s_move {c0 l0 : Int32} {cf0 fi0 lb0 rn0 : Nat → Int32} (hn : rN B nt ver ci sz (lv, sv, pr, fl, cs0, ct, av, dd, ca, fs, fb, lk, mb, nb, ra) pv fp dp pg) (hB : B < 2 ^ 30) (hu : uR ud np dg fd ns ss sc bk) (hN : 10000 ≤ N) (t0 p1 p2 p3 : Int32) (rm wk : Nat → Int32) :
    ∃ a ud' np' lv' sv' pr' fl' cs' ct' av' dd' ca' fs' fb' lk' mb' nb' ver' ci' sz' ra' sc' fd' ns' ss' dg' c0' l0' bk' cf' fi' lb' pg' rn' rm' wk',
      f_X6_move N ud np lv sv pr fl cs0 ct av dd ca fs fb lk mb nb nt ver ci sz ra (nI 14) sc fd ns ss p1 p2 p3 = some (a, ud', np', lv', sv', pr', fl', cs', ct', av', dd', ca', fs', fb', lk', mb', nb', ver', ci', sz', ra', sc', fd', ns', ss') ∧
      f_X7_move N t0 dg c0 l0 bk cf0 fi0 lb0 pg rn0 rm wk p1 p2 p3 = some (a, 0, dg', c0', l0', bk', cf', fi', lb', pg', rn', rm', wk') ∧ rN (B + 1) nt ver' ci' sz' (lv', sv', pr', fl', cs', ct', av', dd', ca', fs', fb', lk', mb', nb', ra') pv fp dp pg' ∧ uR ud' np' dg' fd' ns' ss' sc' bk' := by
  have hn2 := rN_up hn (show B ≤ B + 1 by omega)
  obtain ⟨n, z, G, v, h1, rfl, ha, rfl, hc, hm, h7, h8, h9, h10⟩ := hn
  have hn8 := ha.1
  generalize hX : f_X6_move _ _ _ _ _ _ _ _ _ _ _ _ _ _ _ _ _ _ _ _ _ _ _ _ _ _ _ _ _ _ = X
  generalize hY : f_X7_move _ _ _ _ _ _ _ _ _ _ _ _ _ _ _ _ = Y
  unfold f_X6_move at hX
  unfold f_X7_move at hY
  rw [rd0, hm.1, x_inr p1 (by omega), e_b1] at hY
  by_cases q : 0 ≤ p1.toInt ∧ p1.toInt < n
  · rw [(x_hasNote hn8).1 q, e_b1, if_neg (by decide)] at hX
    rw [if_pos q, if_neg (by decide), rd0, hm.1, x_inr p2 (by omega), e_b1] at hY
    obtain ⟨a, hA, rfl⟩ := i_of q.1 q.2
    by_cases q2 : 0 ≤ p2.toInt ∧ p2.toInt < n
    · rw [(x_hasNote hn8).1 q2, e_b1, if_pos (by decide)] at hX
      rw [if_pos q2, if_pos (by decide)] at hY
      obtain ⟨b, hBb, rfl⟩ := i_of q2.1 q2.2
      by_cases w : p3 = 0 ∨ p3 = 1
      · obtain ⟨ud', np', fd', ns', ss', sc', bk', k1, k2, k3⟩ := u_note ha hc hm hN hu
        rw [(x_mnd p3).1 w, e_b1, if_pos (by decide), k1, e_b6] at hX
        rw [(x_in01 p3).1 w, e_b1, if_pos (by decide), k2, e_b2] at hY
        obtain ⟨md, hmd, rfl⟩ := mnd_nI w
        obtain ⟨ci', sz', f1, f2⟩ := x_shift (ver := nI v) ha hc (N := N) (by omega) hA hBb hmd
        obtain ⟨rm', wk', p', f3, f4⟩ := m_mv ha hm (N := N) (by omega) hA hBb hmd rm wk
        have hA' := mvA ha hA hBb md
        have hs' : sK n (mvZ z a b) (mvG n z G a b md) (nI v + 1) (lv, sv, pr, fl, cs0, ct, av, dd, ca, fs, fb, lk, mb, nb, ra) := by rw [nI_1]; exact sK_new h8 (by omega) (by omega)
        obtain ⟨pr2, fl2, cs2, ct2, av2, dd2, ca2, fs2, fb2, lk2, mb2, nb2, ra2, e1, e2, e3⟩ := x_studyF (N := N) hA' f2 (by omega) hs'
        obtain ⟨c1, l1, cf, fi, lb, rn, d1⟩ := m_deadC (N := N) hA' f4 (by omega) c0 l0 cf0 fi0 lb0 rn0
        rw [f1, e_b3, e1, e_b15, show f_X4_dead dd2 = some dd2 from rfl, e_b1, e3.2.2.2.2.2.2.2] at hX
        rw [f3, e_b3, d1, e_b7] at hY
        subst hX hY
        refine ⟨_, _, _, _, _, _, _, _, _, _, _, _, _, _, _, _, _, _, _, _, _, _, _, _, _, _, _, _, _, _, _, _, _, _, _, _, rfl, rfl, ?_, k3⟩
        refine ⟨n, mvZ z a b, mvG n z G a b md, v + 1, by omega, nI_1 v, hA', rfl, f2, f4, ?_, by rw [nI_1]; exact vK_st, vI_up h9 (by omega), fun k => absurd k (by rw [nI_1]; exact vI_ne h9 (by omega) (by omega))⟩
        exact sK_st e2 (by rw [e3.2.2.2.2.2.2.2] at e3; exact e3)
      · rw [(x_mnd p3).2 w, e_b1, if_neg (fun k => k rfl)] at hX
        rw [(x_in01 p3).2 w, e_b1, if_neg (fun k => k rfl)] at hY
        subst hX hY
        exact ⟨_, _, _, _, _, _, _, _, _, _, _, _, _, _, _, _, _, _, _, _, _, _, _, _, _, _, _, _, _, _, _, _, _, _, _, _, rfl, rfl, hn2, hu⟩
    · rw [(x_hasNote hn8).2 q2, e_b1, if_neg (fun k => k rfl)] at hX
      rw [if_neg q2, if_neg (fun k => k rfl)] at hY
      subst hX hY
      exact ⟨_, _, _, _, _, _, _, _, _, _, _, _, _, _, _, _, _, _, _, _, _, _, _, _, _, _, _, _, _, _, _, _, _, _, _, _, rfl, rfl, hn2, hu⟩
  · rw [(x_hasNote hn8).2 q, e_b1, if_pos rfl] at hX
    rw [if_neg q, if_pos rfl] at hY
    subst hX hY
    exact ⟨_, _, _, _, _, _, _, _, _, _, _, _, _, _, _, _, _, _, _, _, _, _, _, _, _, _, _, _, _, _, _, _, _, _, _, _, rfl, rfl, hn2, hu⟩
end
