/-! the table of cases -/
section
variable {n : Nat} {z : Nat → Nat} {G : Nat → Nat → Nat} {p sz : Nat → Int32} {ci : Nat → Int64} {L N : Nat} {ver lv sv pr cs0 ct av dd fl c1 c0 l0 : Int32} {ca fs fb mb nb ra lk cf fi rn cf0 fi0 lb0 rn0 : Nat → Int32}
theorem fu_rp (ha : aP n z G) {r : Nat} (h : fu n z G r = true) : rpOK (G r 3) ∧ G r 1 < 6 ∧ G r 2 < 6 ∧ G r 5 = 0 ∧ G r 6 = 0 ∧ (G r 4 = 0 ∨ (rpOK (G r 4) ∧ G r 4 / 100 % 10 ≠ G r 3 / 100 % 10)) := by
  have w := vF_fu (th_v ha (fu_th h)) (fu_0 h)
  exact ⟨w.2.2.1, w.1, w.2.1, w.2.2.2.2.1, w.2.2.2.2.2, w.2.2.2.1⟩
def kyA (F : Nat → Nat) : Nat := 10000 * (2 * (6 * F 1 + F 2) + F 3 / 100 % 10) + F 3 - 100 * (F 3 / 100 % 10)
def kyB (F : Nat → Nat) : Nat := 10000 * (6 * F 1 + F 2) + 1000 * (F 3 / 100 % 10) + F 3 / 1000 * 100 + F 3 % 100
theorem ky_iff {F H : Nat → Nat} (h : rpOK (F 3)) (k : rpOK (H 3)) : kyA F < kyA H ↔ kyB F < kyB H := by
  unfold rpOK at h k
  unfold kyA kyB
  generalize 6 * F 1 + F 2 = a
  generalize 6 * H 1 + H 2 = b
  obtain ⟨s, es⟩ : ∃ s, s = F 3 / 100 % 10 := ⟨_, rfl⟩
  obtain ⟨t, et⟩ : ∃ t, t = H 3 / 100 % 10 := ⟨_, rfl⟩
  obtain ⟨u, eu⟩ : ∃ u, u = F 3 / 1000 := ⟨_, rfl⟩
  obtain ⟨v, ev⟩ : ∃ v, v = H 3 / 1000 := ⟨_, rfl⟩
  obtain ⟨g, eg⟩ : ∃ g, g = F 3 % 100 := ⟨_, rfl⟩
  obtain ⟨w, ew⟩ : ∃ w, w = H 3 % 100 := ⟨_, rfl⟩
  have e1 : F 3 = 1000 * u + 100 * s + g := by omega
  have e2 : H 3 = 1000 * v + 100 * t + w := by omega
  rw [← es, ← et, ← eu, ← ev, ← eg, ← ew, e1, e2]
  omega
theorem x_key (ha : aP n z G) (hc : cP n z G (nI n) sz ci) (h : dF n z G cs0 av dd ca fs fb mb nb ra) {c : Nat} (hk : c < KK n z G) : f_X4_sortKey cs0 fs ci (nI c) = some (nI (kyA (G (kf n z G c)))) := by
  obtain ⟨r1, r2, r3, r4, r5, r6⟩ := fu_rp ha (kf_ok ha hk).2
  have hv := th_v ha (kf_th ha hk)
  have hb := rp_lt r1
  have hj : ∀ s, s = G (kf n z G c) 3 / 100 % 10 → j_X4_sortKey_26 (lN (en (G (kf n z G c)))) (nI (G (kf n z G c) 3)) (nI s) = some (nI (kyA (G (kf n z G c)))) := by
    intro s es
    unfold j_X4_sortKey_26 kyA
    rw [c_first hv, e_b1, c_second hv, e_b1, r4, Nat.add_zero (G (kf n z G c) 1), e_nm, show (6 : Int32) = nI 6 from rfl, show (2 : Int32) = nI 2 from rfl, show (10000 : Int32) = nI 10000 from rfl, show (100 : Int32) = nI 100 from rfl, pk_mul, nI_add, pk_mul, nI_add, pk_mul, nI_add, pk_mul, pk_sub (by unfold rpOK at r1; omega), es]
  unfold f_X4_sortKey
  rw [x_fc ha hc h hk, e_b1, c_report hv, e_b1, show f_X6_isOfSeries (nI (G (kf n z G c) 3)) 0 = _ from x_ser r1 0 (by omega), e_b1]
  unfold rpOK at r1
  by_cases q : G (kf n z G c) 3 / 100 % 10 = 0
  · rw [if_pos q, if_neg (by decide)]
    exact hj 0 q.symm
  · rw [if_neg q, if_pos rfl]
    exact hj 1 (by omega)
theorem m_key (ha : aP n z G) (hm : mP n z G p) (h : mF n z G c1 cf fi rn) {c : Nat} (hk : c < KK n z G) : f_X7_rankOf cf p (nI c) = some (nI (kyB (G (kf n z G c)))) := by
  have hK := KK_le (n := n) (z := z) (G := G)
  have ht := kf_th ha hk
  have hb := vF_b (th_v ha ht)
  unfold f_X7_rankOf kyB
  rw [e_rd _ _ (by omega) (by omega), h.2.1 c hk, show f_X7_ref p (nI (kf n z G c)) 3 = _ from m_refT ha hm ht (i := 3) (by omega), e_b1, show f_X7_ref p (nI (kf n z G c)) 1 = _ from m_refT ha hm ht (i := 1) (by omega), e_b1, show f_X7_ref p (nI (kf n z G c)) 2 = _ from m_refT ha hm ht (i := 2) (by omega), e_b1,
    d100 (by omega), show (10 : Int32) = nI 10 from rfl, pk_rem (by omega) (by omega) (by omega), show nI (G (kf n z G c) 3) - nI (G (kf n z G c) 3 / 100) * 100 = nI (G (kf n z G c) 3 % 100) from by rw [← d100 (by omega)]; exact r100 (by omega),
    show (1000 : Int32) = nI 1000 from rfl, pk_div (by omega) (by omega) (by omega), show (6 : Int32) = nI 6 from rfl, show (10000 : Int32) = nI 10000 from rfl, show (100 : Int32) = nI 100 from rfl, pk_mul, nI_add, pk_mul, pk_mul, nI_add, pk_mul, nI_add, nI_add]
noncomputable def rk (n : Nat) (z : Nat → Nat) (G : Nat → Nat → Nat) (c : Nat) : Nat := fb_ct (fun e => decide (kyB (G (kf n z G e)) < kyB (G (kf n z G c)))) (KK n z G)
theorem kyA_lt {F : Nat → Nat} (h : rpOK (F 3)) (h1 : F 1 < 6) (h2 : F 2 < 6) : kyA F < 10000000 ∧ kyB F < 10000000 := by
  unfold rpOK at h
  unfold kyA kyB
  omega
theorem x_rank (ha : aP n z G) (hc : cP n z G (nI n) sz ci) (h : dF n z G cs0 av dd ca fs fb mb nb ra) (hN : 2000 ≤ N) {c : Nat} (hk : c < KK n z G) : f_X4_rankOf N cs0 fs ci (nI c) = some (nI (rk n z G c)) := by
  have hK := KK_le (n := n) (z := z) (G := G)
  have main := lp_cnt (fun m i s => lp_X4_rankOf_4 cs0 fs ci (nI c) m s (nI i)) (KK n z G) (fun e => decide (kyB (G (kf n z G e)) < kyB (G (kf n z G c)))) (fun s => s)
    (fun m s => by
      simp only [lp_X4_rankOf_4]
      rw [h.1, if_pos (nI_le (Nat.le_refl _) (by omega))])
    (fun m i k hi => by
      simp only [lp_X4_rankOf_4]
      have e1 := fu_rp ha (kf_ok ha hi).2
      have e2 := fu_rp ha (kf_ok ha hk).2
      have l1 := kyA_lt e1.1 e1.2.1 e1.2.2.1
      have l2 := kyA_lt e2.1 e2.2.1 e2.2.2.1
      rw [x_key ha hc h hi, e_b1, x_key ha hc h hk, e_b1, if_neg (show ¬ cs0 ≤ nI i from by rw [h.1]; exact nI_ge hi (by omega))]
      by_cases q : kyA (G (kf n z G i)) < kyA (G (kf n z G c))
      · rw [if_neg (nI_ge q (by omega)), e_nm, e_nm, nI_1, nI_1, if_pos (by rw [decide_eq_true_eq]; exact (ky_iff e1.1 e2.1).mp q)]
      · rw [if_pos (nI_le (by omega) (by omega)), e_nm, nI_1, if_neg (by rw [decide_eq_true_eq]; exact fun w => q ((ky_iff e1.1 e2.1).mpr w))]; rfl)
    N (by omega)
  unfold f_X4_rankOf
  rw [show lp_X4_rankOf_4 cs0 fs ci (nI c) N 0 0 = _ from main, e_b1, e_u1]
  rfl
theorem m_rank (ha : aP n z G) (hm : mP n z G p) (h : mF n z G c1 cf fi rn) (hN : 2000 ≤ N) {c : Nat} (hk : c < KK n z G) : lp_X7_table_32 p (nI c) c1 cf N 0 0 = some (nI (rk n z G c)) := by
  have hK := KK_le (n := n) (z := z) (G := G)
  have main := lp_cnt (fun m i s => lp_X7_table_32 p (nI c) c1 cf m s (nI i)) (KK n z G) (fun e => decide (kyB (G (kf n z G e)) < kyB (G (kf n z G c)))) (fun s => s)
    (fun m s => by
      simp only [lp_X7_table_32]
      rw [h.1, if_pos (nI_le (Nat.le_refl _) (by omega))])
    (fun m i k hi => by
      simp only [lp_X7_table_32]
      have e1 := fu_rp ha (kf_ok ha hi).2
      have e2 := fu_rp ha (kf_ok ha hk).2
      have l1 := kyA_lt e1.1 e1.2.1 e1.2.2.1
      have l2 := kyA_lt e2.1 e2.2.1 e2.2.2.1
      rw [m_key ha hm h hi, e_b1, m_key ha hm h hk, e_b1, if_neg (show ¬ c1 ≤ nI i from by rw [h.1]; exact nI_ge hi (by omega))]
      by_cases q : kyB (G (kf n z G i)) < kyB (G (kf n z G c))
      · rw [if_neg (nI_ge q (by omega)), e_nm, e_nm, nI_1, nI_1, if_pos (by rw [decide_eq_true_eq]; exact q)]
      · rw [if_pos (nI_le (by omega) (by omega)), e_nm, e_nm, nI_1, i_p0, if_neg (by rw [decide_eq_true_eq]; exact q)]; rfl)
    N (by omega)
  exact main
/-! no two cases stand at one place -/
theorem kf_inj (ha : aP n z G) {c d : Nat} (hc : c < KK n z G) (hd : d < KK n z G) (e : G (kf n z G c) 3 = G (kf n z G d) 3) : c = d := by
  obtain ⟨t1, t2, t3⟩ := TC_ok ha (full_31 n)
  obtain ⟨c1, c2, c3⟩ := kth_ok hc
  obtain ⟨d1, d2, d3⟩ := kth_ok hd
  have r1 := rp_lt (fu_rp ha (kf_ok ha hc).2).1
  have hm : mt G (kf n z G c) (kf n z G d) = true := by
    unfold mt hr
    rw [e]
    have : G (kf n z G d) 3 ≠ 0 := by omega
    simp [this]
  have h1 := t1.2.2 _ _ (fx_sp c2) (fx_sp d2) hm
  have f1 : (TC n z G (full n)).1 (kf n z G c) = kf n z G c := by
    have := c2
    unfold fk fx at this
    simp only [Bool.and_eq_true, decide_eq_true_eq] at this
    exact this.2
  have f2 : (TC n z G (full n)).1 (kf n z G d) = kf n z G d := by
    have := d2
    unfold fk fx at this
    simp only [Bool.and_eq_true, decide_eq_true_eq] at this
    exact this.2
  have h2 : kf n z G c = kf n z G d := f1.symm.trans (Eq.trans h1 f2)
  rw [← c3, ← d3]
  exact congrArg (fb_ct (fk n z G)) h2
theorem kyB_rep {F H : Nat → Nat} (h : rpOK (F 3)) (k : rpOK (H 3)) (e : kyB F = kyB H) : F 3 = H 3 := by
  unfold rpOK at h k
  unfold kyB at e
  obtain ⟨a, ea⟩ : ∃ a, a = 6 * F 1 + F 2 := ⟨_, rfl⟩
  obtain ⟨b, eb⟩ : ∃ b, b = 6 * H 1 + H 2 := ⟨_, rfl⟩
  rw [← ea, ← eb] at e
  obtain ⟨s, es⟩ : ∃ s, s = F 3 / 100 % 10 := ⟨_, rfl⟩
  obtain ⟨t, et⟩ : ∃ t, t = H 3 / 100 % 10 := ⟨_, rfl⟩
  obtain ⟨u, eu⟩ : ∃ u, u = F 3 / 1000 := ⟨_, rfl⟩
  obtain ⟨v, ev⟩ : ∃ v, v = H 3 / 1000 := ⟨_, rfl⟩
  obtain ⟨g, eg⟩ : ∃ g, g = F 3 % 100 := ⟨_, rfl⟩
  obtain ⟨w, ew⟩ : ∃ w, w = H 3 % 100 := ⟨_, rfl⟩
  have e1 : F 3 = 1000 * u + 100 * s + g := by omega
  have e2 : H 3 = 1000 * v + 100 * t + w := by omega
  rw [← es, ← et, ← eu, ← ev, ← eg, ← ew] at e
  rw [← es, ← eu, ← eg] at h
  rw [← et, ← ev, ← ew] at k
  have g1 : g < 100 := by omega
  have w1 : w < 100 := by omega
  clear es et eu ev eg ew ea eb
  have q1 : a = b := by omega
  have q2 : s = t := by omega
  have q3 : u = v := by omega
  omega
theorem ct_lt {P Q : Nat → Bool} {m d : Nat} (h : ∀ k, k < m → P k = true → Q k = true) (hd : d < m) (h1 : P d = false) (h2 : Q d = true) : fb_ct P m < fb_ct Q m := by
  have e := fb_ct_upd P true (i := d) hd
  rw [h1, if_neg (by decide), if_pos rfl] at e
  have l := fb_ct_sub (p := fun k => if k = d then true else P k) (q := Q) (n := m) (fun k hk w => by
    by_cases q : k = d
    · rw [q]; exact h2
    · simp only [q, if_false] at w; exact h k hk w)
  omega
theorem rk_inj (ha : aP n z G) {c d : Nat} (hc : c < KK n z G) (hd : d < KK n z G) (e : rk n z G c = rk n z G d) : c = d := by
  have r1 := (fu_rp ha (kf_ok ha hc).2).1
  have r2 := (fu_rp ha (kf_ok ha hd).2).1
  have key : ∀ a b, a < KK n z G → kyB (G (kf n z G a)) < kyB (G (kf n z G b)) → rk n z G a < rk n z G b := by
    intro a b hA hlt
    exact ct_lt (d := a) (fun k _ w => by rw [decide_eq_true_eq] at w ⊢; omega) hA (by rw [decide_eq_false_iff_not]; omega) (by rw [decide_eq_true_eq]; exact hlt)
  rcases Nat.lt_trichotomy (kyB (G (kf n z G c))) (kyB (G (kf n z G d))) with q | q | q
  · have := key c d hc q; omega
  · exact kf_inj ha hc hd (kyB_rep r1 r2 q)
  · have := key d c hd q; omega
theorem s_table (ha : aP n z G) (hc : cP n z G (nI n) sz ci) (hm : mP n z G p) (hN : 2000 ≤ N) (h : sK n z G ver (lv, sv, pr, fl, cs0, ct, av, dd, ca, fs, fb, lk, mb, nb, ra)) (t0 p1 : Int32) :
    ∃ a s' m', f_X6_table N lv sv pr fl cs0 ct av dd ca fs fb lk mb nb (nI n) ver ci sz ra p1 = some (a, s') ∧ sK n z G ver s' ∧ (s'.1 = ver ∧ s'.2.1 = ver) ∧ f_X7_table N t0 c0 l0 cf0 fi0 lb0 p rn0 p1 = some (a, m') := by
  have hK := KK_le (n := n) (z := z) (G := G)
  obtain ⟨pr2, fl2, cs2, ct2, av2, dd2, ca2, fs2, fb2, lk2, mb2, nb2, ra2, e1, e2, e3⟩ := x_studyF (N := N) ha hc (by omega) h
  obtain ⟨c1, l1, cf, fi, lb, rn, f1, f2⟩ := m_FA (N := N) ha hm (by omega) c0 l0 cf0 fi0 lb0 rn0
  generalize hX : f_X6_table _ _ _ _ _ _ _ _ _ _ _ _ _ _ _ _ _ _ _ _ _ = X
  generalize hY : f_X7_table _ _ _ _ _ _ _ _ _ _ = Y
  unfold f_X6_table at hX
  unfold f_X7_table at hY
  rw [e1, e_b15] at hX
  rw [f1, e_b6] at hY
  by_cases hex : ∃ c, c < KK n z G ∧ nI (rk n z G c) = p1
  · obtain ⟨c, hcK, hcp⟩ := hex
    have uni : ∀ d, d < KK n z G → nI (rk n z G d) = p1 → d = c := by
      intro d hd hdp
      have l1 := fb_ct_le (fun e => decide (kyB (G (kf n z G e)) < kyB (G (kf n z G d)))) (KK n z G)
      have l2 := fb_ct_le (fun e => decide (kyB (G (kf n z G e)) < kyB (G (kf n z G c)))) (KK n z G)
      refine rk_inj ha hd hcK ((nI_eq ?_ ?_).mp (hdp.trans hcp.symm))
      · show fb_ct _ _ < _; omega
      · show fb_ct _ _ < _; omega
    have k1 := lp_up (fun m i (_ : Unit) => lp_X6_table_9 N ci p1 cs2 fs2 m (nI i)) (KK n z G) (fun i _ => i ≤ c) (fun b => b = .inl (nI c))
      (fun m s w => by omega)
      (fun m i s hi w => by
        simp only [lp_X6_table_9]
        rw [show f_X4_cases cs2 = some cs2 from rfl, e_b1, if_neg (show ¬ cs2 ≤ nI i from by rw [e3.1]; exact nI_ge hi (by omega)), x_rank ha hc e3 hN hi, e_b1]
        by_cases q : i = c
        · subst q
          exact Or.inl ⟨_, by rw [if_neg (fun k => k hcp)], rfl⟩
        · exact Or.inr ⟨(), by omega, by rw [if_pos (fun k => q (uni i hi k)), e_nm, nI_1]⟩)
      N 0 () (by omega) (by omega) (by omega)
    obtain ⟨b, b1, b2⟩ := k1
    have k2 := lp_up (fun m i (s : Int32) => lp_X7_table_18 N p p1 c1 cf m s (nI i)) (KK n z G) (fun i s => s = if c < i then nI c else -9) (fun b => b = nI c)
      (fun m s w => ⟨s, by
        simp only [lp_X7_table_18]
        rw [if_pos (show c1 ≤ nI (KK n z G) from by rw [f2.1]; exact nI_le (Nat.le_refl _) (by omega))], by rw [w, if_pos hcK]⟩)
      (fun m i s hi w => by
        simp only [lp_X7_table_18]
        rw [if_neg (show ¬ c1 ≤ nI i from by rw [f2.1]; exact nI_ge hi (by omega)), m_rank ha hm f2 hN hi, e_b1, e_u1]
        by_cases q : i = c
        · subst q
          exact Or.inr ⟨nI i, by rw [if_pos (by omega)], by rw [if_neg (fun k => k hcp), e_nm, nI_1]⟩
        · refine Or.inr ⟨s, ?_, by rw [if_pos (fun k => q (uni i hi k)), e_nm, nI_1]⟩
          rw [w]
          by_cases q2 : c < i
          · rw [if_pos q2, if_pos (by omega)]
          · rw [if_neg q2, if_neg (by omega)])
      N 0 (-9) (by omega) (by omega) (by rw [if_neg (by omega)])
    obtain ⟨d, d1, d2⟩ := k2
    rw [show lp_X6_table_9 N ci p1 cs2 fs2 N 0 = some b from b1, b2, e_b1, e_s2l, e_u1] at hX
    rw [show lp_X7_table_18 N p p1 c1 cf N (-9) 0 = some d from d1, e_b1, e_u1, d2, if_pos (n_m9 (by omega))] at hY
    subst hX hY
    exact ⟨_, _, _, rfl, sK_st e2 e3, ⟨rfl, rfl⟩, rfl⟩
  · have hno : ∀ d, d < KK n z G → ¬ nI (rk n z G d) = p1 := fun d hd w => hex ⟨d, hd, w⟩
    have k1 := lp_up (fun m i (_ : Unit) => lp_X6_table_9 N ci p1 cs2 fs2 m (nI i)) (KK n z G) (fun _ _ => True) (fun b => b = .inr ())
      (fun m s w => ⟨_, by
        simp only [lp_X6_table_9]
        rw [show f_X4_cases cs2 = some cs2 from rfl, e_b1, if_pos (show cs2 ≤ nI (KK n z G) from by rw [e3.1]; exact nI_le (Nat.le_refl _) (by omega))], rfl⟩)
      (fun m i s hi w => by
        simp only [lp_X6_table_9]
        rw [show f_X4_cases cs2 = some cs2 from rfl, e_b1, if_neg (show ¬ cs2 ≤ nI i from by rw [e3.1]; exact nI_ge hi (by omega)), x_rank ha hc e3 hN hi, e_b1]
        exact Or.inr ⟨(), trivial, by rw [if_pos (hno i hi), e_nm, nI_1]⟩)
      N 0 () (by omega) (by omega) trivial
    obtain ⟨b, b1, b2⟩ := k1
    have k2 := lp_up (fun m i (s : Int32) => lp_X7_table_18 N p p1 c1 cf m s (nI i)) (KK n z G) (fun i s => s = -9) (fun b => b = -9)
      (fun m s w => ⟨s, by
        simp only [lp_X7_table_18]
        rw [if_pos (show c1 ≤ nI (KK n z G) from by rw [f2.1]; exact nI_le (Nat.le_refl _) (by omega))], w⟩)
      (fun m i s hi w => by
        simp only [lp_X7_table_18]
        rw [if_neg (show ¬ c1 ≤ nI i from by rw [f2.1]; exact nI_ge hi (by omega)), m_rank ha hm f2 hN hi, e_b1, e_u1]
        exact Or.inr ⟨s, w, by rw [if_pos (hno i hi), e_nm, nI_1]⟩)
      N 0 (-9) (by omega) (by omega) rfl
    obtain ⟨d, d1, d2⟩ := k2
    rw [show lp_X6_table_9 N ci p1 cs2 fs2 N 0 = some b from b1, b2, e_b1, e_s2r, e_u0] at hX
    rw [show lp_X7_table_18 N p p1 c1 cf N (-9) 0 = some d from d1, e_b1, e_u1, d2, if_neg (fun w => w rfl)] at hY
    subst hX hY
    exact ⟨_, _, _, rfl, sK_st e2 e3, ⟨rfl, rfl⟩, rfl⟩
end
