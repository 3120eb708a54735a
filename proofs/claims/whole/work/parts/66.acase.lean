/-! what is told of a case -/
section
variable {n : Nat} {z : Nat → Nat} {G : Nat → Nat → Nat} {p sz : Nat → Int32} {ci : Nat → Int64} {L N : Nat} {ver lv sv pr cs0 ct av dd fl c1 c0 l0 : Int32} {ca fs fb mb nb ra lk cf fi rn cf0 fi0 lb0 rn0 : Nat → Int32}
theorem vF_fu {F : Nat → Nat} (h : vF F) (h0 : F 0 = 0) : F 1 < 6 ∧ F 2 < 6 ∧ rpOK (F 3) ∧ (F 4 = 0 ∨ (rpOK (F 4) ∧ F 4 / 100 % 10 ≠ F 3 / 100 % 10)) ∧ F 5 = 0 ∧ F 6 = 0 := by
  obtain ⟨_, w | w | w | w⟩ := h
  · exact w.2
  · omega
  · omega
  · omega
/-- reference r is a full one of case c -/
noncomputable def own (n : Nat) (z : Nat → Nat) (G : Nat → Nat → Nat) (c r : Nat) : Bool := fu n z G r && decide (FF n z G r = some c)
theorem own_fu {c r : Nat} (h : own n z G c r = true) : fu n z G r = true := by
  unfold own at h
  simp only [Bool.and_eq_true] at h
  exact h.1
theorem x_hr (ha : aP n z G) {r v : Nat} (h : th n z r = true) (hv : v < 10000) : f_X0_has (lN (en (G r))) (nI v) = some (b1 (hr G r v)) := by
  have hw := th_v ha h
  have hb := vF_b hw
  unfold f_X0_has hr
  by_cases q : v = 0
  · rw [if_pos (by rw [q]; rfl)]; simp [q, b1]
  · rw [if_neg (nI_ne0 (by omega) (by omega)), c_report hw, e_b1]
    by_cases q1 : G r 3 = v
    · rw [if_pos (by rw [q1])]; simp [q, q1, b1]
    · rw [if_neg (fun w => q1 ((nI_eq (by omega) (by omega)).mp w)), c_other hw, e_b1]
      by_cases q2 : G r 4 = v
      · rw [if_neg (fun w => w (by rw [q2]))]; simp [q, q2, b1]
      · rw [if_pos (fun w => q2 ((nI_eq (by omega) (by omega)).mp w))]; simp [q1, q2, b1]
/-- the case has this report in a full reference ahead of slot i -/
noncomputable def hadB (n : Nat) (z : Nat → Nat) (G : Nat → Nat → Nat) (c v i : Nat) : Bool := decide (0 < fb_ct (fun b => own n z G c b && hr G b v) i)
theorem x_firstW (ha : aP n z G) (hc : cP n z G (nI n) sz ci) (h : dF n z G cs0 av dd ca fs fb mb nb ra) (hN : 2000 ≤ N) {c i v : Nat} (hk : c < KK n z G) (hi : i ≤ 32) (hv : v < 10000) :
    f_X4_isFirstWith N cs0 mb ci (nI c) (nI i) (nI v) = some (b1 (!hadB n z G c v i)) := by
  have main := lp_any (fun m j => lp_X4_isFirstWith_3 cs0 mb ci (nI c) (nI i) (nI v) m (nI j)) i (fun b => own n z G c b && hr G b v) (.inl ()) (.inr ())
    (fun m => by
      simp only [lp_X4_isFirstWith_3]
      rw [if_pos (nI_le (Nat.le_refl _) (by omega))])
    (fun m j hj => by
      simp only [lp_X4_isFirstWith_3]
      rw [if_neg (nI_ge hj (by omega)), x_mem h hk (by omega), e_b1]
      cases ho : own n z G c j with
      | false => rw [show (fu n z G j && decide (FF n z G j = some c)) = false from ho, if_pos (by decide), e_nm, nI_1, if_neg (by simp)]
      | true =>
        have hth := fu_th (own_fu ho)
        rw [show (fu n z G j && decide (FF n z G j = some c)) = true from ho, if_neg (by decide), x_cite (by omega), e_b1, cP_c hc hth, x_hr ha hth hv, e_b1, Bool.true_and]
        cases hr G j v with
        | false => rw [if_pos (by decide), e_nm, nI_1, if_neg (by decide)]
        | true => rw [if_neg (by decide), if_pos rfl])
    N (by omega)
  unfold f_X4_isFirstWith hadB
  rw [show lp_X4_isFirstWith_3 cs0 mb ci (nI c) (nI i) (nI v) N 0 = _ from main, e_b1]
  by_cases q : 0 < fb_ct (fun b => own n z G c b && hr G b v) i
  · rw [if_pos q, e_s2l, decide_eq_true q]; rfl
  · rw [if_neg q, e_s2r, decide_eq_false q]; rfl
/-- the numbers of reports that the reference goes through -/
def rng (v : Nat) : Bool := decide (1001 ≤ v) && decide (v % 1000 < 200)
noncomputable def reps (n : Nat) (z : Nat → Nat) (G : Nat → Nat → Nat) (c i : Nat) : Nat := fb_ct (fun v => rng v && hadB n z G c v i) 9200
theorem hadB_s (c v i : Nat) : hadB n z G c v (i + 1) = (hadB n z G c v i || (own n z G c i && hr G i v)) := ct_s _ _
theorem ct_single (a : Nat) (b : Bool) {m : Nat} (h : a < m) : fb_ct (fun v => decide (v = a) && b) m = if b = true then 1 else 0 := by
  have e : ∀ k, fb_ct (fun v => decide (v = a) && b) k = if a < k then (if b = true then 1 else 0) else 0 := by
    intro k
    induction k with
    | zero => rfl
    | succ k ih =>
      rw [fb_ct_succ, ih]
      by_cases q : k = a
      · subst q; rw [if_neg (show ¬ k < k by omega), if_pos (show k < k + 1 by omega)]; simp
      · by_cases q2 : a < k
        · rw [if_pos q2, if_pos (show a < k + 1 by omega)]; simp [q]
        · rw [if_neg q2, if_neg (show ¬ a < k + 1 by omega)]; simp [q]
  rw [e m, if_pos h]
theorem rng_ok {v : Nat} (h : rpOK v) : rng v = true ∧ v < 9200 := by
  unfold rpOK at h
  refine ⟨?_, by omega⟩
  unfold rng
  rw [decide_eq_true (show 1001 ≤ v by omega), decide_eq_true (show v % 1000 < 200 by omega)]
  rfl
theorem reps_s (ha : aP n z G) (c : Nat) {i : Nat} : reps n z G c (i + 1) = reps n z G c i + (if own n z G c i = true then (if (!hadB n z G c (G i 3) i) = true then 1 else 0) + (if (!decide (G i 4 = 0) && !hadB n z G c (G i 4) i) = true then 1 else 0) else 0) := by
  unfold reps
  cases ho : own n z G c i with
  | false =>
    rw [if_neg (by decide)]
    exact (fb_ct_cong (fun v _ => by rw [hadB_s, ho]; simp)).trans (Nat.add_zero _).symm
  | true =>
    rw [if_pos rfl]
    have hf := own_fu ho
    have hth := fu_th hf
    have hv := th_v ha hth
    have h0 := fu_0 hf
    have hr3 : rpOK (G i 3) ∧ (G i 4 = 0 ∨ (rpOK (G i 4) ∧ G i 4 / 100 % 10 ≠ G i 3 / 100 % 10)) := ⟨(vF_fu hv h0).2.2.1, (vF_fu hv h0).2.2.2.1⟩
    have hb3 := rp_lt hr3.1
    have e3 := rng_ok hr3.1
    have hA := ct_single (G i 3) (!hadB n z G c (G i 3) i) e3.2
    have hB : fb_ct (fun v => decide (v = G i 4) && (!decide (G i 4 = 0) && !hadB n z G c (G i 4) i)) 9200 = if (!decide (G i 4 = 0) && !hadB n z G c (G i 4) i) = true then 1 else 0 := by
      rcases hr3.2 with q | q
      · rw [q]
        exact ct_single 0 _ (by omega)
      · exact ct_single _ _ (rng_ok q.1).2
    rw [← hA, ← hB, ← fb_ct_or, ← fb_ct_or]
    · refine fb_ct_cong (fun v _ => ?_)
      rw [hadB_s, ho, Bool.true_and]
      unfold hr
      by_cases q3 : v = G i 3
      · subst q3
        have : rng (G i 3) = true := e3.1
        rw [this]
        cases hadB n z G c (G i 3) i <;> simp <;> omega
      · by_cases q4 : v = G i 4
        · subst q4
          by_cases q0 : G i 4 = 0
          · rw [q0]
            simp [rng]
            omega
          · have : rng (G i 4) = true := by
              rcases hr3.2 with q | q
              · exact absurd q q0
              · exact (rng_ok q.1).1
            rw [this]
            cases hadB n z G c (G i 4) i <;> simp [q0, q3]
        · have a3 : ¬ G i 3 = v := fun w => q3 w.symm
          have a4 : ¬ G i 4 = v := fun w => q4 w.symm
          simp [q3, q4, a3, a4]
    · intro v _ w
      simp only [Bool.and_eq_true, Bool.or_eq_true, decide_eq_true_eq, Bool.not_eq_true', decide_eq_false_iff_not] at w
      obtain ⟨⟨w1, w2⟩, ⟨w3, w4⟩ | ⟨w3, w4, w5⟩⟩ := w
      · rw [w3, w4] at w2; cases w2
      · rw [w3, w5] at w2; cases w2
    · intro v _ w
      simp only [Bool.and_eq_true, Bool.or_eq_true, decide_eq_true_eq, Bool.not_eq_true', decide_eq_false_iff_not] at w
      obtain ⟨⟨w1, w2⟩, w3, w4, w5⟩ := w
      rcases hr3.2 with q | q
      · exact w4 q
      · rw [← w1, ← w3] at q
        exact q.2 rfl
theorem x_reports (ha : aP n z G) (hc : cP n z G (nI n) sz ci) (h : dF n z G cs0 av dd ca fs fb mb nb ra) (hN : 2000 ≤ N) {c : Nat} (hk : c < KK n z G) : f_X4_reportsOf N cs0 mb ci (nI c) = some (nI (reps n z G c 32)) := by
  have main := lp_up (fun n' i (s : Int32) => lp_X4_reportsOf_4 N cs0 mb ci (nI c) n' s (nI i)) 32 (fun i s => s = nI (reps n z G c i)) (fun s => s = nI (reps n z G c 32))
    (fun m s q => ⟨s, by
      simp only [lp_X4_reportsOf_4]
      rw [if_pos (show (32 : Int32) ≤ nI 32 from by decide)], q⟩)
    (fun m i s hi q => by
      refine Or.inr ⟨nI (reps n z G c (i + 1)), rfl, ?_⟩
      simp only [lp_X4_reportsOf_4]
      rw [if_neg (show ¬ (32 : Int32) ≤ nI i from nI_ge (b := 32) hi (by omega)), x_mem h hk hi, e_b1, q, reps_s ha]
      cases ho : own n z G c i with
      | false => rw [show (fu n z G i && decide (FF n z G i = some c)) = false from ho, if_neg (by decide), e_nm, nI_1, if_neg (by decide), Nat.add_zero (reps n z G c i)]
      | true =>
        have hth := fu_th (own_fu ho)
        have hv := th_v ha hth
        have hb := vF_b hv
        rw [show (fu n z G i && decide (FF n z G i = some c)) = true from ho, if_pos (by decide), x_cite hi, e_b1, cP_c hc hth, c_report hv, e_b1, x_firstW ha hc h hN hk (by omega) (by omega), e_b1, if_pos rfl]
        have hj : ∀ k, j_X4_reportsOf_49 (lp_X4_reportsOf_4 N cs0 mb ci (nI c) m) N cs0 mb ci (nI c) (nI k) (nI i) (lN (en (G i))) = lp_X4_reportsOf_4 N cs0 mb ci (nI c) m (nI (k + if (!decide (G i 4 = 0) && !hadB n z G c (G i 4) i) = true then 1 else 0)) (nI (i + 1)) := by
          intro k
          unfold j_X4_reportsOf_49
          rw [c_other hv, e_b1]
          by_cases q4 : G i 4 = 0
          · rw [if_pos (by rw [q4]; rfl), e_nm, nI_1, if_neg (by simp [q4])]; rfl
          · rw [if_neg (nI_ne0 (by omega) (by omega)), e_b1, x_firstW ha hc h hN hk (by omega) (by omega), e_b1]
            cases hd : hadB n z G c (G i 4) i with
            | false => rw [if_neg (by decide), e_nm, e_nm, nI_1, nI_1, if_pos (by simp [q4])]
            | true => rw [if_pos (by decide), e_nm, nI_1, if_neg (by simp)]; rfl
        cases hd : hadB n z G c (G i 3) i with
        | false => rw [if_neg (by decide), e_nm, nI_1, hj, if_pos (show (!false) = true from rfl), Nat.add_assoc]
        | true => rw [if_pos (by decide), hj, if_neg (show ¬ (!true) = true by decide), Nat.zero_add])
    N 0 0 (by omega) (by omega) (by
      have : reps n z G c 0 = 0 := fb_ct_zero.mpr (fun v _ => by simp [hadB, fb_ct])
      rw [this]; rfl)
  obtain ⟨s, a1, a2⟩ := main
  unfold f_X4_reportsOf
  rw [show lp_X4_reportsOf_4 N cs0 mb ci (nI c) N 0 0 = some s from a1, e_b1, e_u1, a2]
theorem m_isRep (ha : aP n z G) (hm : mP n z G p) (h : mF n z G c1 cf fi rn) (hN : 2000 ≤ N) {c v : Nat} (hc : c < 32) (hv : v < 2 ^ 31) : f_X7_isReportOf N fi p (nI c) (nI v) = some (b1 (hadB n z G c v 32)) := by
  have main := lp_or (fun m i s => lp_X7_isReportOf_5 fi p (nI c) (nI v) m s (nI i)) 32 (fun b => own n z G c b && hr G b v) (fun s => s)
    (fun m s => by
      simp only [lp_X7_isReportOf_5]
      rw [if_pos (show (32 : Int32) ≤ nI 32 from by decide)])
    (fun m i b hi => by
      simp only [lp_X7_isReportOf_5]
      rw [if_neg (show ¬ (32 : Int32) ≤ nI i from nI_ge (b := 32) hi (by omega))]
      cases b with
      | true => rw [if_pos (by decide), e_nm, nI_1]; rfl
      | false =>
        rw [if_neg (by decide), m_all ha hm, e_b1, m_sp ha hm (full_31 n) (by omega), e_b1, sp_full ha, Bool.false_or]
        unfold own
        cases hu : fu n z G i with
        | false => rw [if_pos (by decide), e_nm, nI_1]; rfl
        | true =>
          rw [if_neg (by decide), e_rd _ _ hi (by omega), (h.2.2 i hi).1]
          by_cases q : FF n z G i = some c
          · rw [if_neg (fun w => w ((oI_c _ (fun d w => by have := FF_32 ha _ d w; omega) (by omega)).mpr q)), m_hr ha hm (fu_th hu) hv, e_b1, decide_eq_true q]
            cases hr G i v with
            | false => rw [if_pos (by decide), e_nm, nI_1]; rfl
            | true => rw [if_neg (by decide), e_nm, nI_1]; rfl
          · rw [if_pos (fun w => q ((oI_c _ (fun d w => by have := FF_32 ha _ d w; omega) (by omega)).mp w)), e_nm, nI_1, decide_eq_false q]; rfl)
    N (by omega)
  unfold f_X7_isReportOf
  rw [show lp_X7_isReportOf_5 fi p (nI c) (nI v) N 0 0 = _ from main, e_b1, e_u1, b1_bz]
  rfl
theorem m_reports (ha : aP n z G) (hm : mP n z G p) (h : mF n z G c1 cf fi rn) (hN : 10000 ≤ N) {c : Nat} (hc : c < 32) : f_X7_reportsOf N fi p (nI c) = some (nI (reps n z G c 32)) := by
  have main := lp_up (fun n' i (s : Int32) => lp_X7_reportsOf_6 N fi p (nI c) n' s (nI i)) 9200 (fun i s => s = nI (fb_ct (fun v => rng v && hadB n z G c v 32) i) ∧ 1001 ≤ i) (fun s => s = nI (reps n z G c 32))
    (fun m s q => ⟨s, by
      simp only [lp_X7_reportsOf_6]
      rw [if_pos (show (9200 : Int32) ≤ nI 9200 from by decide)], q.1⟩)
    (fun m i s hi q => by
      refine Or.inr ⟨nI (fb_ct (fun v => rng v && hadB n z G c v 32) (i + 1)), ⟨rfl, by omega⟩, ?_⟩
      have e1000 : nI i - nI i / 1000 * 1000 = nI (i % 1000) := by rw [show (1000 : Int32) = nI 1000 from rfl, pk_rem (by omega) (by omega) (by omega)]
      simp only [lp_X7_reportsOf_6]
      rw [if_neg (show ¬ (9200 : Int32) ≤ nI i from nI_ge (b := 9200) hi (by omega)), e1000, q.1, fb_ct_succ]
      by_cases w : i % 1000 < 200
      · rw [if_neg (show ¬ (200 : Int32) ≤ nI (i % 1000) from nI_ge (b := 200) w (by omega)), m_isRep ha hm h (by omega) hc (by omega), e_b1]
        have er : rng i = true := by
          unfold rng
          rw [decide_eq_true q.2, decide_eq_true w]; rfl
        rw [er, Bool.true_and]
        cases hadB n z G c i 32 with
        | false => rw [if_pos (by decide), e_nm, e_nm, nI_1, i_p0, if_neg (by decide)]; rfl
        | true => rw [if_neg (by decide), e_nm, e_nm, nI_1, nI_1, if_pos rfl]
      · have er : rng i = false := by
          unfold rng
          rw [decide_eq_false w, Bool.and_false]
        rw [if_pos (show (200 : Int32) ≤ nI (i % 1000) from nI_le (a := 200) (by omega) (by omega)), e_nm, e_nm, nI_1, i_p0, er, Bool.false_and, if_neg (by decide)]; rfl)
    N 1001 0 (by omega) (by omega) ⟨by
      have : fb_ct (fun v => rng v && hadB n z G c v 32) 1001 = 0 := fb_ct_zero.mpr (fun v hv => by
        unfold rng
        rw [decide_eq_false (show ¬ 1001 ≤ v by omega)]; rfl)
      rw [this]; rfl, Nat.le_refl _⟩
  obtain ⟨s, a1, a2⟩ := main
  unfold f_X7_reportsOf
  rw [show lp_X7_reportsOf_6 N fi p (nI c) N 0 1001 = some s from a1, e_b1, e_u1, a2]
end
