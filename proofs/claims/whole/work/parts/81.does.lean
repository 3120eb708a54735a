/-! an act of judge -/
section
variable {n : Nat} {z : Nat → Nat} {G : Nat → Nat → Nat} {p sz : Nat → Int32} {ci : Nat → Int64} {N B : Nat} {nt ver lv sv pr cs0 ct av dd fl c0 l0 : Int32} {ca fs fb mb nb ra lk bf cf0 fi0 lb0 rn0 rm tr wk : Nat → Int32}
theorem x_pMv1 (ha : aP n z G) (hc : cP n z G (nI n) sz ci) (hN : 2000 ≤ N) {a b c : Nat} (hA : a < n) (hB : b < n) (h2 : c < 2) : ∃ ci' sz', f_X4_performMove N (nI n) ver ci sz (nI a) (nI b) (nI c) = some (1, ver + 1, ci', sz') ∧ cP n (mvZ z a b) (mvG n z G a b c) (nI n) sz' ci' := by
  have h8 := ha.1
  obtain ⟨ci', sz', f1, f2⟩ := x_shift (ver := ver) ha hc hN hA hB h2
  refine ⟨ci', sz', ?_, f2⟩
  unfold f_X4_performMove
  rw [(x_hasNote h8).1 (show 0 ≤ (nI a).toInt ∧ (nI a).toInt < (n : Int) from by rw [nI_toInt (by omega)]; omega), e_b1, if_neg (by decide), (x_hasNote h8).1 (show 0 ≤ (nI b).toInt ∧ (nI b).toInt < (n : Int) from by rw [nI_toInt (by omega)]; omega), e_b1, if_neg (by decide), (x_mnd _).1 (nI_01 h2), e_b1, if_pos (by decide), f1, e_b3]
theorem nI_n01 {c : Nat} (h : ¬ c < 2) (h2 : c < 2 ^ 31) : ¬ (nI c = 0 ∨ nI c = 1) := by
  rintro (k | k)
  · exact nI_ne0 (by omega) h2 k
  · have := (nI_eq (b := 1) h2 (by omega)).mp k
    omega
theorem x_pMv0 (h8 : n ≤ 8) {a b c : Nat} (hA : a < 10) (hB : b < 10) (hC : c < 10) (h : ¬ (a < n ∧ b < n ∧ c < 2)) : f_X4_performMove N (nI n) ver ci sz (nI a) (nI b) (nI c) = some (0, ver, ci, sz) := by
  unfold f_X4_performMove
  by_cases q1 : a < n
  · rw [(x_hasNote h8).1 (show 0 ≤ (nI a).toInt ∧ (nI a).toInt < (n : Int) from by rw [nI_toInt (by omega)]; omega), e_b1, if_neg (by decide)]
    by_cases q2 : b < n
    · rw [(x_hasNote h8).1 (show 0 ≤ (nI b).toInt ∧ (nI b).toInt < (n : Int) from by rw [nI_toInt (by omega)]; omega), e_b1, if_neg (by decide), (x_mnd _).2 (nI_n01 (by omega) (by omega)), e_b1, if_neg (fun k => k rfl)]
    · rw [(x_hasNote h8).2 (show ¬ (0 ≤ (nI b).toInt ∧ (nI b).toInt < (n : Int)) from by rw [nI_toInt (by omega)]; omega), e_b1, if_pos rfl]
  · rw [(x_hasNote h8).2 (show ¬ (0 ≤ (nI a).toInt ∧ (nI a).toInt < (n : Int)) from by rw [nI_toInt (by omega)]; omega), e_b1, if_pos rfl]
theorem x_pCt1 (ha : aP n z G) (hc : cP n z G (nI n) sz ci) (hN : 2000 ≤ N) {a b : Nat} (hA : a < n) (h2 : b < 2) : ∃ ci' sz', f_X4_performCut N (nI n) ver ci sz (nI a) (nI b) 0 = some (1, nI (n - 1), ver + 1, ci', sz') ∧ cP (n - 1) (cuZ n z a) (cuG n z G a b) (nI (n - 1)) sz' ci' := by
  have h8 := ha.1
  obtain ⟨ci', sz', f1, f2⟩ := x_drop (ver := ver) ha hc hN hA h2
  refine ⟨ci', sz', ?_, f2⟩
  unfold f_X4_performCut
  rw [(x_hasNote h8).1 (show 0 ≤ (nI a).toInt ∧ (nI a).toInt < (n : Int) from by rw [nI_toInt (by omega)]; omega), e_b1, if_neg (by decide), (x_mnd _).1 (nI_01 h2), e_b1, if_neg (by decide), if_pos rfl, f1, e_b4]
theorem x_pCt0 (h8 : n ≤ 8) {a b c : Nat} (hA : a < 10) (hB : b < 10) (hC : c < 10) (h : ¬ (a < n ∧ b < 2 ∧ c = 0)) : f_X4_performCut N (nI n) ver ci sz (nI a) (nI b) (nI c) = some (0, nI n, ver, ci, sz) := by
  unfold f_X4_performCut
  by_cases q1 : a < n
  · rw [(x_hasNote h8).1 (show 0 ≤ (nI a).toInt ∧ (nI a).toInt < (n : Int) from by rw [nI_toInt (by omega)]; omega), e_b1, if_neg (by decide)]
    by_cases q2 : b < 2
    · rw [(x_mnd _).1 (nI_01 q2), e_b1, if_neg (by decide), if_neg (nI_ne0 (by omega) (by omega))]
    · rw [(x_mnd _).2 (nI_n01 q2 (by omega)), e_b1, if_pos rfl]
  · rw [(x_hasNote h8).2 (show ¬ (0 ≤ (nI a).toInt ∧ (nI a).toInt < (n : Int)) from by rw [nI_toInt (by omega)]; omega), e_b1, if_pos rfl]
theorem dg1 {d : Nat} (h : d < 10000) : (nI d / 100) - (nI d / 100) / 10 * 10 = nI (d / 100 % 10) := by rw [d100 (by omega), ten_d (by omega), ten_r (by omega)]
theorem dg2 {d : Nat} (h : d < 10000) : (nI d / 10) - (nI d / 10) / 10 * 10 = nI (d / 10 % 10) := by rw [ten_d (by omega), ten_d (by omega), ten_r (by omega)]
theorem dg3 {d : Nat} (h : d < 10000) : nI d - nI d / 10 * 10 = nI (d % 10) := by rw [ten_d (by omega), ten_r (by omega)]
theorem b1_d {c : Prop} [Decidable c] : (if c then (1 : Int32) else 0) = b1 (decide c) := by
  by_cases h : c
  · rw [if_pos h, decide_eq_true h]; rfl
  · rw [if_neg h, decide_eq_false h]; rfl
theorem bt0 : b1 false = 0 := rfl
theorem bt1 : ¬ b1 true = 0 := by decide
theorem pl_at (ha : aP n z G) {a b : Nat} (hA : a < 10) (hb : b < 10) : pl n z (nI a) (nI b) ↔ (a < n ∧ b < z a) := by
  unfold pl
  rw [nI_toInt (by omega), nI_toInt (by omega), nI_clamp (by omega)]
  omega
def e0 : Nat → Int32 := fun _ => 0
set_option maxHeartbeats 1000000 in
theorem s_does (hn : rN B nt ver ci sz (lv, sv, pr, fl, cs0, ct, av, dd, ca, fs, fb, lk, mb, nb, ra) (-1) e0 e0 tr) (hB : B < 2 ^ 30) (hN : 10000 ≤ N) {d : Nat} (hd : d < 10000) :
    ∃ (b : Bool) (lv' sv' pr' fl' cs' ct' av' dd' : Int32) (ca' fs' fb' lk' mb' nb' : Nat → Int32) (nt' ver' : Int32) (ci' : Nat → Int64) (sz' ra' : Nat → Int32) (c0' l0' : Int32) (bf' cf' fi' lb' rn' rm' tr' wk' : Nat → Int32),
      f_X4_perform N lv sv pr fl cs0 ct av dd ca fs fb lk mb nb nt ver ci sz ra (nI d) = some (b1 b, lv', sv', pr', fl', cs', ct', av', dd', ca', fs', fb', lk', mb', nb', nt', ver', ci', sz', ra') ∧
      f_X7_does N c0 l0 bf cf0 fi0 lb0 rn0 rm tr wk (nI d) = some (b1 b, c0', l0', bf', cf', fi', lb', rn', rm', tr', wk') ∧
      rN (B + 1) nt' ver' ci' sz' (lv', sv', pr', fl', cs', ct', av', dd', ca', fs', fb', lk', mb', nb', ra') (-1) e0 e0 tr' := by
  obtain ⟨n, z, G, v, h1, rfl, ha, rfl, hc, hm, h7, h8, h9, h10⟩ := hn
  have hn8 := ha.1
  obtain ⟨pr2, fl2, cs2, ct2, av2, dd2, ca2, fs2, fb2, lk2, mb2, nb2, ra2, e1, e2, e3⟩ := x_studyF (N := N) ha hc (by omega) h7
  obtain ⟨c1, l1, cf, fi, lb, rn, f1, f2⟩ := m_FA (N := N) ha hm (by omega) c0 l0 cf0 fi0 lb0 rn0
  have hst : rN (B + 1) (nI n) (nI v) ci sz (nI v, nI v, pr2, fl2, cs2, ct2, av2, dd2, ca2, fs2, fb2, lk2, mb2, nb2, ra2) (-1) e0 e0 tr := rN_st (by omega) ha hc hm h8 h9 h10 (sK_st e2 e3) (Or.inr ⟨rfl, rfl⟩)
  have hpv : vI v (-1) := Or.inl rfl
  obtain ⟨a, ea⟩ : ∃ a, a = d / 100 % 10 := ⟨_, rfl⟩
  obtain ⟨b, eb⟩ : ∃ b, b = d / 10 % 10 := ⟨_, rfl⟩
  obtain ⟨c, ec⟩ : ∃ c, c = d % 10 := ⟨_, rfl⟩
  obtain ⟨k, ek⟩ : ∃ k, k = d / 1000 := ⟨_, rfl⟩
  have ha10 : a < 10 := by omega
  have hb10 : b < 10 := by omega
  have hc10 : c < 10 := by omega
  have hk10 : k < 10 := by omega
  generalize hX : f_X4_perform _ _ _ _ _ _ _ _ _ _ _ _ _ _ _ _ _ _ _ _ _ = X
  generalize hY : f_X7_does _ _ _ _ _ _ _ _ _ _ _ _ = Y
  unfold f_X4_perform at hX
  unfold f_X7_does at hY
  rw [e1, e_b15, dg1 hd, dg2 hd, dg3 hd, th_d (by omega), ← ea, ← eb, ← ec, ← ek, e_nm, e_nm, e_nm, e_nm] at hX
  rw [dg1 hd, dg2 hd, dg3 hd, ← ea, ← eb, ← ec, e_nm, e_nm, e_nm] at hY
  have hX : _ = X := hX
  obtain ⟨s0, hs0, hY⟩ : ∃ s0, (a < n ∧ b < z a → s0 = nI (4 * a + b)) ∧ j_X7_does_81 N (nI d) (nI a) (nI b) (nI c) (b1 (decide (a < n ∧ b < z a))) (b1 (decide (a < n))) (b1 (decide (b < n))) s0 c0 l0 bf cf0 fi0 lb0 rn0 rm tr wk = Y := by
    have i1 : f_X7_in (nI a).toInt64 0 (nI n - 1).toInt64 = some (b1 (decide (a < n))) := by
      rw [x_inr _ (by omega), nI_toInt (by omega), b1_d]
      congr 2
      rw [decide_eq_decide]; omega
    have i2 : f_X7_in (nI b).toInt64 0 (nI n - 1).toInt64 = some (b1 (decide (b < n))) := by
      rw [x_inr _ (by omega), nI_toInt (by omega), b1_d]
      congr 2
      rw [decide_eq_decide]; omega
    by_cases q : a < n ∧ b < z a
    · rw [(m_hasRef ha hm _ _).1 ((pl_at ha ha10 hb10).mpr q), e_b1, rd0, hm.1, i1, e_b1, rd0, hm.1, i2, e_b1, if_neg (by decide), four_add] at hY
      exact ⟨nI (4 * a + b), fun _ => rfl, by rw [decide_eq_true q]; exact hY⟩
    · rw [(m_hasRef ha hm _ _).2 (fun w => q ((pl_at ha ha10 hb10).mp w)), e_b1, rd0, hm.1, i1, e_b1, rd0, hm.1, i2, e_b1, if_pos rfl] at hY
      exact ⟨0, fun w => absurd w q, by rw [decide_eq_false q]; exact hY⟩
  unfold j_X7_does_81 at hY
  rw [f1, e_b6, th_d (by omega), ← ek, e_nm] at hY
  have href : (a < n ∧ b < z a → f_X1_hasReference (nI n) sz (nI a) (nI b) = some 1) ∧ (¬ (a < n ∧ b < z a) → f_X1_hasReference (nI n) sz (nI a) (nI b) = some 0) := ⟨fun w => (x_hasRef ha hc _ _).1 ((pl_at ha ha10 hb10).mpr w), fun w => (x_hasRef ha hc _ _).2 (fun j => w ((pl_at ha ha10 hb10).mp j))⟩
  have hthr : a < n ∧ b < z a → th n z (4 * a + b) = true := fun w => th_at w.1 w.2 (ha.2 a w.1).2.1
  have kne : ∀ i : Nat, i < 10 → k ≠ i → ¬ nI k = nI i := fun i hi hne w => hne ((nI_eq (by omega) (by omega)).mp w)
  by_cases k1 : k = 1
  · subst k1
    rw [if_pos (show nI 1 = 1 from rfl)] at hX hY
    by_cases q : a < n ∧ b < n ∧ c < 2
    · obtain ⟨ci', sz', g1, g2⟩ := x_pMv1 (ver := nI v) ha hc (N := N) (by omega) q.1 q.2.1 q.2.2
      obtain ⟨rm', wk', p', g3, g4⟩ := m_mv ha hm (N := N) (by omega) q.1 q.2.1 q.2.2 rm wk
      have nc : ¬ (2 : Int32) ≤ nI c := nI_ge (b := 2) q.2.2 (by omega)
      rw [g1, e_b4, e_bz1] at hX
      rw [decide_eq_true q.1, decide_eq_true q.2.1, if_neg bt1, if_neg bt1, if_neg nc, g3, e_b3, if_neg bt1, if_neg bt1, if_neg nc] at hY
      subst hX hY
      exact ⟨true, _, _, _, _, _, _, _, _, _, _, _, _, _, _, _, _, _, _, _, _, _, _, _, _, _, _, _, _, _, rfl, rfl, rN_new h1 hB (mvA ha q.1 q.2.1 c) g2 g4 vK_st hpv⟩
    · rw [x_pMv0 hn8 ha10 hb10 hc10 q, e_b4, e_bz0] at hX
      have fin : Y = some ((0 : Int32), c1, l1, bf, cf, fi, lb, rn, rm, tr, wk) := by
        rw [← hY]
        by_cases q1 : a < n
        · rw [decide_eq_true q1, if_neg bt1]
          by_cases q2 : b < n
          · have nc : (2 : Int32) ≤ nI c := nI_le (a := 2) (by omega) (by omega)
            rw [decide_eq_true q2, if_neg bt1, if_pos nc, if_neg bt1, if_neg bt1, if_pos nc]
          · rw [decide_eq_false q2, if_pos bt0, if_neg bt1, if_pos bt0]
        · rw [decide_eq_false q1, if_pos bt0, if_pos bt0]
      subst hX fin
      exact ⟨false, _, _, _, _, _, _, _, _, _, _, _, _, _, _, _, _, _, _, _, _, _, _, _, _, _, _, _, _, _, rfl, rfl, hst⟩
  · rw [if_neg (show ¬ nI k = 1 from kne 1 (by omega) k1)] at hX hY
    by_cases k2 : k = 2
    · subst k2
      rw [if_pos (show nI 2 = 2 from rfl)] at hX hY
      by_cases q : a < n ∧ b < 2 ∧ c = 0
      · obtain ⟨qa, qb, qc⟩ := q
        obtain ⟨ci', sz', g1, g2⟩ := x_pCt1 (ver := nI v) ha hc (N := N) (by omega) qa qb
        obtain ⟨rm', p', g3, g4⟩ := m_cu ha hm (N := N) (by omega) qa qb rm
        have nc : ¬ (2 : Int32) ≤ nI b := nI_ge (b := 2) qb (by omega)
        have nz : ¬ ¬ nI c = 0 := fun j => j (by rw [qc]; rfl)
        rw [qc, show f_X4_performCut N (nI n) (nI v) ci sz (nI a) (nI b) (nI 0) = _ from g1, e_b5, e_bz1] at hX
        rw [decide_eq_true qa, if_neg bt1, if_neg nc, if_neg nz, g3, e_b2, if_neg bt1, if_neg nc, if_neg nz] at hY
        subst hX hY
        exact ⟨true, _, _, _, _, _, _, _, _, _, _, _, _, _, _, _, _, _, _, _, _, _, _, _, _, _, _, _, _, _, rfl, rfl, rN_new h1 hB (cuA ha qa b) g2 g4 vK_st hpv⟩
      · rw [x_pCt0 hn8 ha10 hb10 hc10 q, e_b5, e_bz0] at hX
        have fin : Y = some ((0 : Int32), c1, l1, bf, cf, fi, lb, rn, rm, tr, wk) := by
          rw [← hY]
          by_cases q1 : a < n
          · rw [decide_eq_true q1, if_neg bt1]
            by_cases q2 : b < 2
            · have nc : ¬ (2 : Int32) ≤ nI b := nI_ge (b := 2) q2 (by omega)
              have nz : ¬ nI c = 0 := nI_ne0 (by omega) (by omega)
              rw [if_neg nc, if_pos nz, if_neg bt1, if_neg nc, if_pos nz]
            · have nc : (2 : Int32) ≤ nI b := nI_le (a := 2) (by omega) (by omega)
              rw [if_pos nc, if_neg bt1, if_pos nc]
          · rw [decide_eq_false q1, if_pos bt0, if_pos bt0]
        subst hX fin
        exact ⟨false, _, _, _, _, _, _, _, _, _, _, _, _, _, _, _, _, _, _, _, _, _, _, _, _, _, _, _, _, _, rfl, rfl, hst⟩
    · rw [if_neg (show ¬ nI k = 2 from kne 2 (by omega) k2)] at hX hY
      by_cases k3 : k = 3
      · subst k3
        rw [if_pos (show nI 3 = 3 from rfl)] at hX hY
        by_cases q : a < n ∧ b < z a
        · have ht := hthr q
          have r32 := th_lt ht hn8
          rw [href.1 q, e_b1, if_neg (by decide), x_slot, e_b1, x_caseOf r32, e_b1, (e3.2.2.2.2.1 _ r32 ht).1] at hX
          rw [decide_eq_true q, if_neg bt1, hs0 q, e_rd _ _ r32 (by omega), (f2.2.2 _ r32).1] at hY
          by_cases q9 : c = 9
          · have n9 : ¬ ¬ nI c = 9 := fun j => j (by rw [q9]; rfl)
            rw [if_neg n9] at hX hY
            cases hF : FF n z G (4 * a + b) with
            | none =>
              rw [hF, if_neg (show ¬ ¬ oJ none = -1 from fun j => j rfl)] at hX
              rw [hF, if_neg (show ¬ ¬ oI none = -9 from fun j => j rfl)] at hY
              subst hX hY
              exact ⟨true, _, _, _, _, _, _, _, _, _, _, _, _, _, _, _, _, _, _, _, _, _, _, _, _, _, _, _, _, _, rfl, rfl, hst⟩
            | some e =>
              have he := FF_32 ha _ e hF
              rw [hF, oJ_s, if_pos (fun j => m1_nI (by omega) j.symm)] at hX
              rw [hF, oI_s, if_pos (n_m9 (by omega))] at hY
              subst hX hY
              exact ⟨false, _, _, _, _, _, _, _, _, _, _, _, _, _, _, _, _, _, _, _, _, _, _, _, _, _, _, _, _, _, rfl, rfl, hst⟩
          · have n9 : ¬ nI c = 9 := fun j => q9 ((nI_eq (b := 9) (by omega) (by omega)).mp j)
            rw [if_pos n9] at hX hY
            by_cases g : FF n z G (4 * a + b) = some c
            · rw [g, oJ_s, if_neg (fun j => j rfl)] at hX
              rw [g, oI_s, if_neg (fun j => j rfl)] at hY
              subst hX hY
              exact ⟨true, _, _, _, _, _, _, _, _, _, _, _, _, _, _, _, _, _, _, _, _, _, _, _, _, _, _, _, _, _, rfl, rfl, hst⟩
            · rw [if_pos (show ¬ oJ (FF n z G (4 * a + b)) = nI c from fun j => by
                cases hF : FF n z G (4 * a + b) with
                | none => rw [hF] at j; exact m1_nI (by omega) j
                | some e =>
                  have he := FF_32 ha _ e hF
                  rw [hF, oJ_s] at j
                  rw [(nI_eq (by omega) (by omega)).mp j] at hF
                  exact g hF)] at hX
              rw [if_pos (show ¬ oI (FF n z G (4 * a + b)) = nI c from fun j => g ((oI_c _ (fun e w => by have := FF_32 ha _ e w; omega) (by omega)).mp j))] at hY
              subst hX hY
              exact ⟨false, _, _, _, _, _, _, _, _, _, _, _, _, _, _, _, _, _, _, _, _, _, _, _, _, _, _, _, _, _, rfl, rfl, hst⟩
        · rw [href.2 q, e_b1, if_pos rfl] at hX
          rw [decide_eq_false q, if_pos bt0] at hY
          subst hX hY
          exact ⟨false, _, _, _, _, _, _, _, _, _, _, _, _, _, _, _, _, _, _, _, _, _, _, _, _, _, _, _, _, _, rfl, rfl, hst⟩
      · rw [if_neg (show ¬ nI k = 3 from kne 3 (by omega) k3)] at hX hY
        by_cases k4 : k = 4
        · subst k4
          rw [if_pos (show nI 4 = 4 from rfl)] at hX hY
          by_cases q : a < n ∧ b < z a
          · have ht := hthr q
            have r32 := th_lt ht hn8
            rw [href.1 q, e_b1, if_neg (by decide), x_slot, e_b1, x_reasonOf r32, e_b1, (e3.2.2.2.2.1 _ r32 ht).2] at hX
            rw [decide_eq_true q, if_neg bt1, hs0 q, e_rd _ _ r32 (by omega), (f2.2.2 _ r32).2] at hY
            by_cases g : nI (RR n z G (4 * a + b)) = nI c
            · rw [if_neg (fun j => j g)] at hX hY
              subst hX hY
              exact ⟨true, _, _, _, _, _, _, _, _, _, _, _, _, _, _, _, _, _, _, _, _, _, _, _, _, _, _, _, _, _, rfl, rfl, hst⟩
            · rw [if_pos g] at hX hY
              subst hX hY
              exact ⟨false, _, _, _, _, _, _, _, _, _, _, _, _, _, _, _, _, _, _, _, _, _, _, _, _, _, _, _, _, _, rfl, rfl, hst⟩
          · rw [href.2 q, e_b1, if_pos rfl] at hX
            rw [decide_eq_false q, if_pos bt0] at hY
            subst hX hY
            exact ⟨false, _, _, _, _, _, _, _, _, _, _, _, _, _, _, _, _, _, _, _, _, _, _, _, _, _, _, _, _, _, rfl, rfl, hst⟩
        · rw [if_neg (show ¬ nI k = 4 from kne 4 (by omega) k4)] at hX hY
          by_cases k5 : k = 5
          · subst k5
            rw [if_pos (show nI 5 = 5 from rfl)] at hX hY
            by_cases q : a = 0
            · have hal := m_many (FF_32 ha) (fun r hr => (f2.2.2 r hr).1) (N := N) (by omega)
              have qa : ¬ ¬ nI a = 0 := fun j => j (by rw [q]; rfl)
              rw [if_neg qa] at hX
              rw [if_neg qa, hal, e_b1] at hY
              by_cases g : nI (fb_ct (fun q => decide (FF n z G q ≠ none)) 32) < 10 * nI b + nI c
              · rw [if_pos (show av2 < 10 * nI b + nI c from by rw [e3.2.2.2.2.2.2.1]; exact g)] at hX
                rw [if_pos g] at hY
                subst hX hY
                exact ⟨false, _, _, _, _, _, _, _, _, _, _, _, _, _, _, _, _, _, _, _, _, _, _, _, _, _, _, _, _, _, rfl, rfl, hst⟩
              · rw [if_neg (show ¬ av2 < 10 * nI b + nI c from by rw [e3.2.2.2.2.2.2.1]; exact g)] at hX
                rw [if_neg g] at hY
                subst hX hY
                exact ⟨true, _, _, _, _, _, _, _, _, _, _, _, _, _, _, _, _, _, _, _, _, _, _, _, _, _, _, _, _, _, rfl, rfl, hst⟩
            · have qa : ¬ nI a = 0 := nI_ne0 (by omega) (by omega)
              rw [if_pos qa] at hX hY
              subst hX hY
              exact ⟨false, _, _, _, _, _, _, _, _, _, _, _, _, _, _, _, _, _, _, _, _, _, _, _, _, _, _, _, _, _, rfl, rfl, hst⟩
          · rw [if_neg (show ¬ nI k = 5 from kne 5 (by omega) k5)] at hX hY
            by_cases k6 : k = 6
            · subst k6
              rw [if_pos (show nI 6 = 6 from rfl)] at hX hY
              by_cases qc : c = 0
              · have nz : ¬ ¬ nI c = 0 := fun j => j (by rw [qc]; rfl)
                rw [if_neg nz] at hX
                unfold f_X4_performShortening at hX
                rw [x_slot, e_b1] at hX
                by_cases q : a < n ∧ b < z a
                · have ht := hthr q
                  have r32 := th_lt ht hn8
                  rw [href.1 q, e_b1, if_neg (by decide), x_caseOf r32, e_b1, (e3.2.2.2.2.1 _ r32 ht).1] at hX
                  rw [decide_eq_true q, if_neg bt1, if_neg nz, hs0 q, e_rd _ _ r32 (by omega), (f2.2.2 _ r32).1] at hY
                  cases hF : FF n z G (4 * a + b) with
                  | none =>
                    rw [hF, if_neg (by decide), e_b3, if_pos rfl] at hX
                    rw [hF, if_neg (show ¬ ¬ oI none = -9 from fun j => j rfl)] at hY
                    subst hX hY
                    exact ⟨false, _, _, _, _, _, _, _, _, _, _, _, _, _, _, _, _, _, _, _, _, _, _, _, _, _, _, _, _, _, rfl, rfl, hst⟩
                  | some e =>
                    have he := FF_32 ha _ e hF
                    have hv := shB_v ha ht
                    obtain ⟨l2, g, g1, g2⟩ := m_shB (bf := bf) ha hm f2 (N := N) (by omega) ht l1
                    obtain ⟨g', r1, r2⟩ := m_pb (p := tr) g2 (N := N) (by omega) r32
                    rw [hF, oJ_s, if_pos (nI_pos' (by omega)), x_shB ha hc e2.1 e3 (by omega) ht, e_b1, x_rep r32, e_b2, e_b3, if_neg (by decide)] at hX
                    rw [hF, oI_s, if_pos (n_m9 (by omega)), g1, e_b2, r1, e_b1] at hY
                    subst hX hY
                    exact ⟨true, _, _, _, _, _, _, _, _, _, _, _, _, _, _, _, _, _, _, _, _, _, _, _, _, _, _, _, _, _, rfl, rfl, rN_new h1 hB (gu_a ha hv) (cP_rep hc ha _) (mP_rep hm ha r2) vK_st hpv⟩
                · rw [href.2 q, e_b1, if_pos rfl, e_b3, if_pos rfl] at hX
                  rw [decide_eq_false q, if_pos bt0] at hY
                  subst hX hY
                  exact ⟨false, _, _, _, _, _, _, _, _, _, _, _, _, _, _, _, _, _, _, _, _, _, _, _, _, _, _, _, _, _, rfl, rfl, hst⟩
              · have nz : ¬ nI c = 0 := nI_ne0 (by omega) (by omega)
                rw [if_pos nz] at hX
                have fin : Y = some ((0 : Int32), c1, l1, bf, cf, fi, lb, rn, rm, tr, wk) := by
                  rw [← hY]
                  by_cases q : a < n ∧ b < z a
                  · rw [decide_eq_true q, if_neg bt1, if_pos nz]
                  · rw [decide_eq_false q, if_pos bt0]
                subst hX fin
                exact ⟨false, _, _, _, _, _, _, _, _, _, _, _, _, _, _, _, _, _, _, _, _, _, _, _, _, _, _, _, _, _, rfl, rfl, hst⟩
            · rw [if_neg (show ¬ nI k = 6 from kne 6 (by omega) k6)] at hX hY
              subst hX hY
              exact ⟨false, _, _, _, _, _, _, _, _, _, _, _, _, _, _, _, _, _, _, _, _, _, _, _, _, _, _, _, _, _, rfl, rfl, hst⟩
end
