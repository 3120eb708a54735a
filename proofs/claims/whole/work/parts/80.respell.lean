/-! the calls put and respell -/
section
variable {n : Nat} {z : Nat → Nat} {G : Nat → Nat → Nat} {p sz : Nat → Int32} {ci : Nat → Int64} {N B : Nat} {nt ver lv sv pr cs0 ct av dd fl : Int32} {fd ns ss bk : Nat → Int32} {sc : Nat → Int64} {ca fs fb mb nb ra lk : Nat → Int32} {s : SV} {pv ud np dg : Int32} {fp dp pg : Nat → Int32}
theorem s_put {tl ts : Int32} {sg tx : Nat → Int32} (h : rT tl ts sg tx) (hn : rN B nt ver ci sz s pv fp dp pg) (hB : B < 2 ^ 30) (hu : uR ud np dg fd ns ss sc bk) (hN : 10000 ≤ N) (t0 p1 p2 qn qv pl sn pl2 : Int32) (qc : Nat → Int64) (qs rp rm : Nat → Int32) :
    ∃ a ud' np' nt' ver' ci' sz' qn' qv' qc' qs' sc' fd' ns' ss' pl' sn' pl2' dg' bk' pg' rp' rm', f_X6_put N ud np nt ver ci sz qn qv qc qs (nI 14) sc fd ns ss tl pl sn sg p1 p2 = some (a, ud', np', nt', ver', ci', sz', qn', qv', qc', qs', sc', fd', ns', ss', pl', sn') ∧
      f_X7_put N t0 ts pl2 dg bk pg rp rm tx p1 p2 = some (a, 0, pl2', dg', bk', pg', rp', rm') ∧ rN (B + 1) nt' ver' ci' sz' s pv fp dp pg' ∧ uR ud' np' dg' fd' ns' ss' sc' bk' := by
  have hn2 := rN_up hn (show B ≤ B + 1 by omega)
  obtain ⟨n, z, G, v, h1, rfl, ha, rfl, hc, hm, h7, h8, h9, h10⟩ := hn
  obtain ⟨len, hT, rfl, rfl, rfl⟩ := h
  have hn8 := ha.1
  have e0 : (0 : Int32).toInt = 0 := by decide
  generalize hX : f_X6_put _ _ _ _ _ _ _ _ _ _ _ _ _ _ _ _ _ _ _ _ _ _ = X
  generalize hY : f_X7_put _ _ _ _ _ _ _ _ _ _ _ _ = Y
  unfold f_X6_put at hX
  unfold f_X7_put at hY
  rw [rd0, hm.1, show f_X7_in p1.toInt64 0 (nI n).toInt64 = _ from x_in32 p1 0 (nI n), e_b1] at hY
  by_cases q : 0 ≤ p1 ∧ p1 ≤ nI n
  · have q1 := q.1
    have q2 := q.2
    rw [i_le, e0] at q1
    rw [i_le, nI_toInt (by omega)] at q2
    obtain ⟨a, hA, rfl⟩ := i_of (n := n + 1) q1 (by omega)
    rw [if_neg (nI_pos (by omega)), show f_X1_notes (nI n) = some (nI n) from rfl, e_b1, if_neg (nI_nlt (by omega) (by omega))] at hX
    rw [if_pos q, if_neg (by decide)] at hY
    by_cases w : p2 = 0 ∨ p2 = 1
    · rw [(x_mnd p2).1 w, e_b1, if_pos (by decide)] at hX
      rw [(x_in01 p2).1 w, e_b1, if_pos (by decide)] at hY
      obtain ⟨md, hmd, rfl⟩ := mnd_nI w
      obtain ⟨fa, fq, vc, n1, z1, G1, qc', qs', rp', sg', i1, i2, i3, i4, i5⟩ := readJ hT (N := N) (by omega) pl sn qn qv pl2 qc qs rp
      rw [i2, e_b7] at hX
      rw [i3, e_b3] at hY
      by_cases k : fa = -9
      · obtain ⟨hA1, hc1, hm1⟩ := i5 k
        have n1b := hA1.1
        rw [if_neg (fun j => j k), show f_X1_notes (nI n1) = some (nI n1) from rfl, e_b1] at hX
        rw [if_neg (fun j => j k), rd0, hm1.1] at hY
        by_cases k1 : n1 = 1
        · subst k1
          rw [if_pos (show nI 1 = 1 from rfl), e_b1] at hX
          rw [if_pos (show nI 1 = 1 from rfl), rd0, hm.1] at hY
          by_cases k8 : n < 8
          · obtain ⟨ud', np', fd', ns', ss', sc', bk', u1, u2, u3⟩ := u_note ha hc hm hN hu
            have hz1 := hA1.2 0 (by omega)
            obtain ⟨ci', sz', f1, f2⟩ := x_ins (ver := nI v) (H := fun j => G1 (4 * 0 + j)) (w := z1 0) ha hc (N := N) (by omega) k8 (a := a) (by omega) hmd ⟨hz1.1, hz1.2.1⟩ hz1.2.2 (hc1.2 0 (by omega)).1 (c2 := qc') (fun j hj => by
              have := (hc1.2 0 (by omega)).2 j hj
              show qc' j = lN (en (G1 (4 * 0 + j)))
              rw [← this, show 4 * 0 + j = j by omega])
            obtain ⟨rm', g1, g2⟩ := m_pu76 rm (N := N) (by omega) (a := a) (by omega)
            rw [if_pos (show nI n < 8 from nI_lt (b := 8) k8 (by omega)), u1, e_b6, f1, e_b4, show f_X1_notes (nI (n + 1)) = some (nI (n + 1)) from rfl, e_b1] at hX
            rw [if_pos (show ¬ nI n = 8 from fun j => by have := (nI_eq (b := 8) (by omega) (by omega)).mp j; omega), u2, e_b2, g1, e_b1, e_u1] at hY
            have hnP : nP (z1 0) (fun j => G1 (4 * 0 + j)) rp' 0 := nP_of hm1 (by omega)
            have hAp := puA ha k8 (w := z1 0) (a := a) (H := fun j => G1 (4 * 0 + j)) ⟨hz1.1, hz1.2.1⟩ hz1.2.2 (by omega) md
            by_cases kd : md = 1
            · subst kd
              obtain ⟨p2, r1, r2⟩ := m_ren ha hm (N := N) (by omega) (rm := rm') (ρ := puR n a) (puR_10 (by omega) a) (fun j hj => Or.inr (by
                rw [g2 j (by omega)]
                unfold puR
                by_cases jj : a ≤ j
                · rw [if_pos jj, if_pos (by omega)]
                · rw [if_neg jj, if_neg (by omega)])) (fun j hj => by unfold puR; rw [if_neg (by omega)])
              obtain ⟨p3, r3, r4⟩ := m_pu125 (gm_v ha (puR_10 (by omega) a)) r2 (N := N) (by omega) k8 (a := a) (by omega) ⟨hz1.1, hz1.2.1⟩ hnP 0 (nI fq) ud' bk' rm'
              rw [if_neg (show ¬ ¬ nI 1 = 1 from fun j => j rfl), rd0, hm.1, r1, e_b1, r3] at hY
              subst hX hY
              refine ⟨_, _, _, _, _, _, _, _, _, _, _, _, _, _, _, _, _, _, _, _, _, _, _, rfl, rfl, rN_new h1 hB hAp f2 ?_ h8 h9, u3⟩
              unfold puG
              rw [if_pos rfl]
              exact r4
            · have kd0 : md = 0 := by omega
              subst kd0
              obtain ⟨p3, r3, r4⟩ := m_pu125 ha hm (N := N) (by omega) k8 (a := a) (by omega) ⟨hz1.1, hz1.2.1⟩ hnP 0 (nI fq) ud' bk' rm'
              rw [if_pos (by decide), r3] at hY
              subst hX hY
              refine ⟨_, _, _, _, _, _, _, _, _, _, _, _, _, _, _, _, _, _, _, _, _, _, _, rfl, rfl, rN_new h1 hB hAp f2 ?_ h8 h9, u3⟩
              unfold puG
              rw [if_neg kd]
              exact r4
          · rw [if_neg (show ¬ nI n < 8 from nI_nlt (b := 8) (by omega) (by omega))] at hX
            rw [if_neg (show ¬ ¬ nI n = 8 from fun j => j (by rw [show n = 8 by omega]; rfl))] at hY
            subst hX hY
            exact ⟨_, _, _, _, _, _, _, _, _, _, _, _, _, _, _, _, _, _, _, _, _, _, _, rfl, rfl, hn2, hu⟩
        · have k1' : ¬ nI n1 = 1 := fun j => k1 ((nI_eq (b := 1) (by omega) (by omega)).mp j)
          rw [if_neg k1'] at hX hY
          subst hX hY
          exact ⟨_, _, _, _, _, _, _, _, _, _, _, _, _, _, _, _, _, _, _, _, _, _, _, rfl, rfl, hn2, hu⟩
      · rw [if_pos k] at hX hY
        subst hX hY
        exact ⟨_, _, _, _, _, _, _, _, _, _, _, _, _, _, _, _, _, _, _, _, _, _, _, rfl, rfl, hn2, hu⟩
    · rw [(x_mnd p2).2 w, e_b1, if_neg (fun k => k rfl)] at hX
      rw [(x_in01 p2).2 w, e_b1, if_neg (fun k => k rfl)] at hY
      subst hX hY
      exact ⟨_, _, _, _, _, _, _, _, _, _, _, _, _, _, _, _, _, _, _, _, _, _, _, rfl, rfl, hn2, hu⟩
  · rw [if_neg q, if_pos rfl] at hY
    subst hY
    by_cases w : p1 < 0
    · rw [if_pos w] at hX
      subst hX
      exact ⟨_, _, _, _, _, _, _, _, _, _, _, _, _, _, _, _, _, _, _, _, _, _, _, rfl, rfl, hn2, hu⟩
    · have w2 : nI n < p1 := by
        rw [i_lt] at w
        rw [i_lt]
        refine Int.not_le.mp (fun k => q ⟨?_, ?_⟩)
        · rw [i_le]; omega
        · rw [i_le]; exact k
      rw [if_neg w, show f_X1_notes (nI n) = some (nI n) from rfl, e_b1, if_pos w2] at hX
      subst hX
      exact ⟨_, _, _, _, _, _, _, _, _, _, _, _, _, _, _, _, _, _, _, _, _, _, _, rfl, rfl, hn2, hu⟩
theorem m_pb {bf : Nat → Int32} {F : Nat → Nat} (hbf : ∀ i, i < 8 → bf i = nI (F i)) (hN : 2000 ≤ N) {r : Nat} (hr : r < 32) : ∃ g, f_X7_putBrief N bf p (nI r) = some g ∧ rec8 g p (9 + 8 * r) F := by
  have main := lp_up (fun m i (t : Nat → Int32) => lp_X7_putBrief_2 bf (nI r) m (nI i) t) 8 (fun i t => (∀ j, j < i → t (9 + 8 * r + j) = nI (F j)) ∧ ∀ j, (j < 9 + 8 * r ∨ 9 + 8 * r + 8 ≤ j) → t j = p j) (fun t => rec8 t p (9 + 8 * r) F)
    (fun m t w => ⟨t, by
      simp only [lp_X7_putBrief_2]
      rw [if_pos (show (8 : Int32) ≤ nI 8 from by decide)], w⟩)
    (fun m i t hi w => by
      refine Or.inr ⟨upd t (9 + 8 * r + i) (nI (F i)), ⟨fun j hj => ?_, fun j hj => ?_⟩, ?_⟩
      · by_cases e : j = i
        · rw [e, upd_s]
        · rw [upd_n _ _ (by omega)]; exact w.1 j (by omega)
      · rw [upd_n _ _ (by omega)]; exact w.2 j hj
      · simp only [lp_X7_putBrief_2]
        rw [if_neg (show ¬ (8 : Int32) ≤ nI i from nI_ge (b := 8) hi (by omega)), b_rd hbf hi, show (9 : Int32) = nI 9 from rfl, show (8 : Int32) = nI 8 from rfl, pk_mul, nI_add, nI_add, e_wrI _ _ _ (by omega) (by omega), e_nm, nI_1])
    N 0 p (by omega) (by omega) ⟨fun j hj => by omega, fun j _ => rfl⟩
  obtain ⟨g, g1, g2⟩ := main
  refine ⟨g, ?_, g2⟩
  unfold f_X7_putBrief
  rw [show lp_X7_putBrief_2 bf (nI r) N 0 p = some g from g1, e_b1, e_u1]
theorem gu_a (ha : aP n z G) {r : Nat} {F : Nat → Nat} (hF : vF F) : aP n z (gu G r F) := by
  refine ⟨ha.1, fun k hk => ⟨(ha.2 k hk).1, (ha.2 k hk).2.1, fun j hj => ?_⟩⟩
  by_cases e : 4 * k + j = r
  · rw [e, gu_s]; exact hF
  · rw [gu_n _ _ e]; exact (ha.2 k hk).2.2 j hj
theorem x_len (ha : aP n z G) (hc : cP n z G (nI n) sz ci) (h : dF n z G cs0 av dd ca fs fb mb nb ra) {r c : Nat} (hr : th n z r = true) (hF : FF n z G r = some c) : f_X4_lengthened cs0 ca fs ci (nI r) = some (lN (en (wp (G (kf n z G c)) (G r 7)))) := by
  have r32 := th_lt hr ha.1
  have hk := FF_K ha r r32 c hF
  have hv := th_v ha hr
  have hb := vF_b hv
  unfold f_X4_lengthened
  rw [x_caseOf r32, e_b1, (h.2.2.2.2.1 r r32 hr).1, hF, oJ_s, x_fc ha hc h hk, e_b1, x_cite r32, e_b1, cP_c hc hr, c_pin hv, e_b1, c_withPin (th_v ha (kf_th ha hk)) (by omega), e_b1]
/-- respell's end: the class puts the record F into slot r -/
theorem x_83 {pr2 fl2 cs2 ct2 av2 dd2 : Int32} {ca2 fs2 fb2 lk2 mb2 nb2 ra2 : Nat → Int32} {v r : Nat} {F : Nat → Nat} {ud' np' : Int32} {fd' ns' ss' : Nat → Int32} {sc' : Nat → Int64} (hr : r < 32) (hF : vF F) (k1 : f_X6_remember ud np (nI n) ci sz (nI 14) sc fd ns ss = some (ud', np', sc', fd', ns', ss')) :
    j_X6_respell_83 (nI n) sz (nI 14) (nI r) (lN (en F)) ud np (nI v) (nI v) pr2 fl2 cs2 ct2 av2 dd2 ca2 fs2 fb2 lk2 mb2 nb2 (nI v) ci ra2 sc fd ns ss = some (nI (F 0), ud', np', nI v, nI v, pr2, fl2, cs2, ct2, av2, dd2, ca2, fs2, fb2, lk2, mb2, nb2, nI v + 1, vp_updL ci r (lN (en F)), ra2, sc', fd', ns', ss') := by
  unfold j_X6_respell_83
  rw [k1, e_b6, x_rep hr, e_b2, c_form hF, e_b1]
theorem s_respell {c0 l0 : Int32} {cf0 fi0 lb0 rn0 bf : Nat → Int32} (hn : rN B nt ver ci sz (lv, sv, pr, fl, cs0, ct, av, dd, ca, fs, fb, lk, mb, nb, ra) pv fp dp pg) (hB : B < 2 ^ 30) (hu : uR ud np dg fd ns ss sc bk) (hN : 10000 ≤ N) (t0 p1 p2 p3 : Int32) :
    ∃ a ud' np' lv' sv' pr' fl' cs' ct' av' dd' ca' fs' fb' lk' mb' nb' ver' ci' ra' sc' fd' ns' ss' dg' c0' l0' bk' bf' cf' fi' lb' pg' rn',
      f_X6_respell N ud np lv sv pr fl cs0 ct av dd ca fs fb lk mb nb nt ver ci sz ra (nI 14) sc fd ns ss p1 p2 p3 = some (a, ud', np', lv', sv', pr', fl', cs', ct', av', dd', ca', fs', fb', lk', mb', nb', ver', ci', ra', sc', fd', ns', ss') ∧
      f_X7_respell N t0 dg c0 l0 bk bf cf0 fi0 lb0 pg rn0 p1 p2 p3 = some (a, 0, dg', c0', l0', bk', bf', cf', fi', lb', pg', rn') ∧ rN (B + 1) nt ver' ci' sz (lv', sv', pr', fl', cs', ct', av', dd', ca', fs', fb', lk', mb', nb', ra') pv fp dp pg' ∧ uR ud' np' dg' fd' ns' ss' sc' bk' := by
  have hn2 := rN_up hn (show B ≤ B + 1 by omega)
  obtain ⟨n, z, G, v, h1, rfl, ha, rfl, hc, hm, h7, h8, h9, h10⟩ := hn
  have hn8 := ha.1
  generalize hX : f_X6_respell _ _ _ _ _ _ _ _ _ _ _ _ _ _ _ _ _ _ _ _ _ _ _ _ _ _ _ _ _ _ = X
  generalize hY : f_X7_respell _ _ _ _ _ _ _ _ _ _ _ _ _ _ _ = Y
  unfold f_X6_respell at hX
  unfold f_X7_respell at hY
  by_cases q : pl n z p1 p2
  · rw [(x_hasRef ha hc p1 p2).1 q, e_b1, if_pos (by decide)] at hX
    rw [(m_hasRef ha hm p1 p2).1 q, e_b1, if_pos (by decide)] at hY
    by_cases w : p3 = 0 ∨ p3 = 1
    · obtain ⟨md, hmd, rfl⟩ := mnd_nI w
      rw [if_neg (nI_pos (by omega)), if_pos (show nI md ≤ 1 from nI_le (b := 1) (by omega) (by omega))] at hX
      rw [(x_in01 _).1 w, e_b1, if_pos (by decide)] at hY
      obtain ⟨pr2, fl2, cs2, ct2, av2, dd2, ca2, fs2, fb2, lk2, mb2, nb2, ra2, e1, e2, e3⟩ := x_studyF (N := N) ha hc (by omega) h7
      obtain ⟨c1, l1, cf, fi, lb, rn, f1, f2⟩ := m_FA (N := N) ha hm (by omega) c0 l0 cf0 fi0 lb0 rn0
      obtain ⟨a, b, k1, k2, rfl, rfl, k3⟩ := pl_of ha.1 q (fun k hk => (ha.2 k hk).2.1)
      have r32 := th_lt k3 ha.1
      rw [e1, e_b15, x_slot, e_b1, x_caseOf r32, e_b1, (e3.2.2.2.2.1 _ r32 k3).1] at hX
      rw [four_add, e_nm, f1, e_b6, e_rd _ _ r32 (by omega), (f2.2.2 _ r32).1] at hY
      have hst : rN (B + 1) (nI n) (nI v) ci sz (nI v, nI v, pr2, fl2, cs2, ct2, av2, dd2, ca2, fs2, fb2, lk2, mb2, nb2, ra2) pv fp dp pg := rN_st (by omega) ha hc hm h8 h9 h10 (sK_st e2 e3) (Or.inr ⟨rfl, rfl⟩)
      cases hF : FF n z G (4 * a + b) with
      | none =>
        rw [hF, if_neg (by decide)] at hX
        rw [hF, if_neg (show ¬ ¬ oI none = -9 from fun j => j rfl)] at hY
        subst hX hY
        exact ⟨_, _, _, _, _, _, _, _, _, _, _, _, _, _, _, _, _, _, _, _, _, _, _, _, _, _, _, _, _, _, _, _, _, _, rfl, rfl, hst, hu⟩
      | some c =>
        have hk := FF_K ha _ r32 c hF
        have hK := KK_le (n := n) (z := z) (G := G)
        obtain ⟨ud', np', fd', ns', ss', sc', bk', u1, u2, u3⟩ := u_note ha hc hm hN hu
        obtain ⟨l2, g, g1, g2⟩ := m_shB (bf := bf) ha hm f2 (N := N) (by omega) k3 l1
        have fin : ∀ (F : Nat → Nat) (g' : Nat → Int32), vF F → rec8 g' pg (9 + 8 * (4 * a + b)) F → rN (B + 1) (nI n) (nI v + 1) (vp_updL ci (4 * a + b) (lN (en F))) sz (nI v, nI v, pr2, fl2, cs2, ct2, av2, dd2, ca2, fs2, fb2, lk2, mb2, nb2, ra2) pv fp dp g' :=
          fun F g' hv hr => rN_new h1 hB (gu_a ha hv) (cP_rep hc ha F) (mP_rep hm ha hr) vK_st h9
        rw [hF, oJ_s, if_pos (nI_pos' (by omega))] at hX
        rw [hF, oI_s, if_pos (n_m9 (by omega)), u2, e_b2, g1, e_b2] at hY
        by_cases kd : md = 0
        · subst kd
          have hv := shB_v ha k3
          obtain ⟨g', r1, r2⟩ := m_pb (p := pg) g2 (N := N) (by omega) r32
          rw [if_neg (show ¬ ¬ nI 0 = 0 from fun j => j rfl), x_shB ha hc e2.1 e3 (by omega) k3, e_b1, x_83 r32 hv u1] at hX
          rw [if_pos (by decide), r1, e_b1, show (0 : Int32) = nI 0 from rfl, b_rd g2 (by omega)] at hY
          subst hX hY
          exact ⟨_, _, _, _, _, _, _, _, _, _, _, _, _, _, _, _, _, _, _, _, _, _, _, _, _, _, _, _, _, _, _, _, _, _, rfl, rfl, fin _ _ hv r2, u3⟩
        · have kd1 : md = 1 := by omega
          subst kd1
          have hvk := th_v ha (kf_th ha hk)
          have hv : vF (wp (G (kf n z G c)) (G (4 * a + b) 7)) := wp_v hvk (vF_b (th_v ha k3)).2.2.2.2.2.1
          have h7 : shB n z G (4 * a + b) 7 = G (4 * a + b) 7 := by
            unfold shB
            rw [hF]
            simp only
            by_cases st : stB n z G (4 * a + b) = true
            · rw [if_pos st]
            · rw [if_neg st]; exact if_pos rfl
          obtain ⟨g3, j1, j2⟩ := m_lsp (bf := g) ha hm f2 (N := N) (by omega) (v := G (4 * a + b) 7) hk (by rw [g2 7 (by omega), h7])
          obtain ⟨g', r1, r2⟩ := m_pb (p := pg) j2 (N := N) (by omega) r32
          rw [if_pos (by decide), x_len ha hc e3 k3 hF, e_b1, x_83 r32 hv u1] at hX
          rw [if_neg (show ¬ ¬ nI 1 = 1 from fun j => j rfl), e_rd _ _ r32 (by omega), (f2.2.2 _ r32).1, hF, oI_s, j1, e_b1, r1, e_b1, show (0 : Int32) = nI 0 from rfl, b_rd j2 (by omega)] at hY
          subst hX hY
          exact ⟨_, _, _, _, _, _, _, _, _, _, _, _, _, _, _, _, _, _, _, _, _, _, _, _, _, _, _, _, _, _, _, _, _, _, rfl, rfl, fin _ _ hv r2, u3⟩
    · rw [(x_in01 p3).2 w, e_b1, if_neg (fun k => k rfl)] at hY
      subst hY
      by_cases k0 : p3 < 0
      · rw [if_pos k0] at hX
        subst hX
        exact ⟨_, _, _, _, _, _, _, _, _, _, _, _, _, _, _, _, _, _, _, _, _, _, _, _, _, _, _, _, _, _, _, _, _, _, rfl, rfl, hn2, hu⟩
      · rw [if_neg k0, if_neg (show ¬ p3 ≤ 1 from fun k1 => by
          rw [i_lt] at k0
          rw [i_le] at k1
          rw [i_eq, i_eq] at w
          have e0 : (0 : Int32).toInt = 0 := by decide
          have e1 : (1 : Int32).toInt = 1 := by decide
          omega)] at hX
        subst hX
        exact ⟨_, _, _, _, _, _, _, _, _, _, _, _, _, _, _, _, _, _, _, _, _, _, _, _, _, _, _, _, _, _, _, _, _, _, rfl, rfl, hn2, hu⟩
  · rw [(x_hasRef ha hc p1 p2).2 q, e_b1, if_neg (fun k => k rfl)] at hX
    rw [(m_hasRef ha hm p1 p2).2 q, e_b1, if_neg (fun k => k rfl)] at hY
    subst hX hY
    exact ⟨_, _, _, _, _, _, _, _, _, _, _, _, _, _, _, _, _, _, _, _, _, _, _, _, _, _, _, _, _, _, _, _, _, _, rfl, rfl, hn2, hu⟩
end
