/-! observations: see, unsee, which -/
section
variable {n : Nat} {z : Nat → Nat} {G : Nat → Nat → Nat} {p sz : Nat → Int32} {ci : Nat → Int64} {N B : Nat} {nt ver lv sv pr cs0 ct av dd fl c0 l0 c1 : Int32} {ca fs fb mb nb ra lk cf0 fi0 lb0 rn0 cf fi rn : Nat → Int32} {pv : Int32} {fp dp pg : Nat → Int32}
def rS (sc se : Int32) (sN sW sH mI mV mH : Nat → Int32) (k : Nat) (A V W : Nat → Nat) : Prop := k ≤ 6 ∧ sc = nI k ∧ se = nI k ∧ ∀ i, i < k → A i ≤ 4 ∧ V i ≤ 9 ∧ W i ≤ 1 ∧ sH i = nI (A i) ∧ mH i = nI (A i) ∧ sN i = nI (V i) ∧ mV i = nI (V i) ∧ sW i = nI (W i) ∧ mI i = nI (W i)
def rO (sc se : Int32) (sN sW sH mI mV mH : Nat → Int32) : Prop := ∃ k A V W, rS sc se sN sW sH mI mV mH k A V W
theorem in_r (x : Int32) {b : Nat} (hb : b < 1000) : (∃ a, a ≤ b ∧ x = nI a ∧ f_X7_in x.toInt64 0 (nI b).toInt64 = some 1 ∧ ¬ x < 0 ∧ x ≤ nI b ∧ ¬ nI b < x) ∨ (f_X7_in x.toInt64 0 (nI b).toInt64 = some 0 ∧ (x < 0 ∨ (¬ x < 0 ∧ nI b < x ∧ ¬ x ≤ nI b))) := by
  have e0 : (0 : Int32).toInt = 0 := by decide
  rw [show f_X7_in x.toInt64 0 (nI b).toInt64 = _ from x_in32 x 0 (nI b)]
  by_cases q : 0 ≤ x ∧ x ≤ nI b
  · left
    have q1 := q.1
    have q2 := q.2
    rw [i_le, e0] at q1
    rw [i_le, nI_toInt (by omega)] at q2
    obtain ⟨a, hA, rfl⟩ := i_of (n := b + 1) q1 (by omega)
    exact ⟨a, by omega, rfl, by rw [if_pos q], nI_pos (by omega), q.2, nI_nlt (by omega) (by omega)⟩
  · right
    refine ⟨by rw [if_neg q], ?_⟩
    rw [i_le, i_le, e0, nI_toInt (by omega)] at q
    rw [i_lt, i_lt, i_le, e0, nI_toInt (by omega)]
    omega
theorem s_see {sc se : Int32} {sN sW sH mI mV mH : Nat → Int32} (h : rO sc se sN sW sH mI mV mH) (t0 p1 p2 p3 : Int32) : ∃ a sc' sN' sW' sH' se' mI' mV' mH', f_X6_see sc sN sW sH p1 p2 p3 = some (a, sc', sN', sW', sH') ∧ f_X7_see t0 se mI mV mH p1 p2 p3 = some (a, 0, se', mI', mV', mH') ∧ rO sc' se' sN' sW' sH' mI' mV' mH' := by
  obtain ⟨k, A, V, W, hk, rfl, rfl, h⟩ := h
  have h0 : rO (nI k) (nI k) sN sW sH mI mV mH := ⟨k, A, V, W, hk, rfl, rfl, h⟩
  generalize hX : f_X6_see _ _ _ _ _ _ _ = X
  generalize hY : f_X7_see _ _ _ _ _ _ _ _ = Y
  unfold f_X6_see at hX
  unfold f_X7_see at hY
  rcases in_r p1 (b := 4) (by omega) with ⟨a, ha, rfl, a1, a2, a3, a4⟩ | ⟨a1, a2⟩
  · rw [show f_X7_in (nI a).toInt64 0 4 = some 1 from a1, e_b1, if_neg (by decide)] at hY
    rw [if_neg a2, if_neg (show ¬ (4 : Int32) < nI a from a4)] at hX
    rcases in_r p2 (b := 9) (by omega) with ⟨b, hb, rfl, b1, b2, b3, b4⟩ | ⟨b1, b2⟩
    · rw [show f_X7_in (nI b).toInt64 0 9 = some 1 from b1, e_b1, if_neg (by decide)] at hY
      rw [if_neg b2, if_neg (show ¬ (9 : Int32) < nI b from b4)] at hX
      rcases in_r p3 (b := 1) (by omega) with ⟨c, hc, rfl, d1, d2, d3, d4⟩ | ⟨d1, d2⟩
      · rw [show f_X7_in (nI c).toInt64 0 1 = some 1 from d1, e_b1, if_pos (by decide)] at hY
        rw [if_neg d2, if_pos (show nI c ≤ 1 from d3)] at hX
        by_cases w : k < 6
        · rw [if_pos (show nI k < 6 from nI_lt (b := 6) w (by omega)), e_wrI _ _ _ w (by omega), e_wrI _ _ _ w (by omega), e_wrI _ _ _ w (by omega), nI_1, e_nm] at hX
          rw [if_pos (show ¬ nI k = 6 from fun j => by have := (nI_eq (b := 6) (by omega) (by omega)).mp j; omega), e_wrI _ _ _ w (by omega), e_wrI _ _ _ w (by omega), e_wrI _ _ _ w (by omega), nI_1, e_nm] at hY
          subst hX hY
          refine ⟨_, _, _, _, _, _, _, _, _, rfl, rfl, k + 1, zu A k a, zu V k b, zu W k c, by omega, rfl, rfl, fun i hi => ?_⟩
          by_cases e : i = k
          · subst e
            rw [zu_s, zu_s, zu_s, upd_s, upd_s, upd_s, upd_s, upd_s, upd_s]
            exact ⟨ha, hb, hc, rfl, rfl, rfl, rfl, rfl, rfl⟩
          · rw [zu_n _ e, zu_n _ e, zu_n _ e, upd_n _ _ e, upd_n _ _ e, upd_n _ _ e, upd_n _ _ e, upd_n _ _ e, upd_n _ _ e]
            exact h i (by omega)
        · rw [if_neg (show ¬ nI k < 6 from nI_nlt (b := 6) (by omega) (by omega))] at hX
          rw [if_neg (show ¬ ¬ nI k = 6 from fun j => j (by rw [show k = 6 by omega]; rfl))] at hY
          subst hX hY
          exact ⟨_, _, _, _, _, _, _, _, _, rfl, rfl, h0⟩
      · rw [show f_X7_in p3.toInt64 0 1 = some 0 from d1, e_b1, if_neg (fun j => j rfl)] at hY
        subst hY
        rcases d2 with d2 | ⟨d2, d3, d4⟩
        · rw [if_pos d2] at hX
          subst hX
          exact ⟨_, _, _, _, _, _, _, _, _, rfl, rfl, h0⟩
        · rw [if_neg d2, if_neg (show ¬ p3 ≤ 1 from d4)] at hX
          subst hX
          exact ⟨_, _, _, _, _, _, _, _, _, rfl, rfl, h0⟩
    · rw [show f_X7_in p2.toInt64 0 9 = some 0 from b1, e_b1, if_pos rfl] at hY
      subst hY
      rcases b2 with b2 | ⟨b2, b3, b4⟩
      · rw [if_pos b2] at hX
        subst hX
        exact ⟨_, _, _, _, _, _, _, _, _, rfl, rfl, h0⟩
      · rw [if_neg b2, if_pos (show (9 : Int32) < p2 from b3)] at hX
        subst hX
        exact ⟨_, _, _, _, _, _, _, _, _, rfl, rfl, h0⟩
  · rw [show f_X7_in p1.toInt64 0 4 = some 0 from a1, e_b1, if_pos rfl] at hY
    subst hY
    rcases a2 with a2 | ⟨a2, a3, a4⟩
    · rw [if_pos a2] at hX
      subst hX
      exact ⟨_, _, _, _, _, _, _, _, _, rfl, rfl, h0⟩
    · rw [if_neg a2, if_pos (show (4 : Int32) < p1 from a3)] at hX
      subst hX
      exact ⟨_, _, _, _, _, _, _, _, _, rfl, rfl, h0⟩
theorem s_unsee {sc se : Int32} {sN sW sH mI mV mH : Nat → Int32} (h : rO sc se sN sW sH mI mV mH) (t0 : Int32) : ∃ a sc' se', f_X6_unsee sc = some (a, sc') ∧ f_X7_unsee t0 se = some (a, 0, se') ∧ rO sc' se' sN sW sH mI mV mH := by
  obtain ⟨k, A, V, W, hk, rfl, rfl, h⟩ := h
  exact ⟨nI k, 0, 0, rfl, rfl, 0, A, V, W, by omega, rfl, rfl, fun i hi => by omega⟩
/-! whether an observation is right of a case -/
def lkV (w v x : Nat) : Bool := decide (x ≠ 0) && (if w = 3 then decide (x / 1000 = v) else decide (x / 100 % 10 = v))
theorem x_vol {x v : Nat} (hx : x < 10000) (hv : v < 10) : f_X6_isOfVolume (nI x) (nI v) = some (b1 (lkV 3 v x)) := by
  unfold f_X6_isOfVolume lkV
  rw [if_pos (show 3 = 3 from rfl)]
  by_cases q : x = 0
  · rw [if_pos (by rw [q]; rfl)]; simp [q, b1]
  · rw [if_neg (nI_ne0 (by omega) (by omega)), th_d (by omega)]
    by_cases q2 : x / 1000 = v
    · rw [if_neg (fun w => w (by rw [q2]))]; simp [q, q2, b1]
    · rw [if_pos (fun w => q2 ((nI_eq (by omega) (by omega)).mp w))]; simp [q2, b1]
theorem x_srs {x v : Nat} (hx : x < 10000) (hv : v < 10) : f_X6_isOfSeries (nI x) (nI v) = some (b1 (lkV 4 v x)) := by
  unfold f_X6_isOfSeries lkV
  rw [if_neg (show ¬ 4 = 3 by decide)]
  by_cases q : x = 0
  · rw [if_pos (by rw [q]; rfl)]; simp [q, b1]
  · rw [if_neg (nI_ne0 (by omega) (by omega)), dg1 hx]
    by_cases q2 : x / 100 % 10 = v
    · rw [if_neg (fun w => w (by rw [q2]))]; simp [q, q2, b1]
    · rw [if_pos (fun w => q2 ((nI_eq (by omega) (by omega)).mp w))]; simp [q2, b1]
noncomputable def hrB (n : Nat) (z : Nat → Nat) (G : Nat → Nat → Nat) (c w v b : Nat) : Bool := own n z G c b && (lkV w v (G b 3) || lkV w v (G b 4))
noncomputable def hrM (n : Nat) (z : Nat → Nat) (G : Nat → Nat → Nat) (c w v q : Nat) : Bool := own n z G c (q / 2) && lkV w v (G (q / 2) (3 + q % 2))
theorem hr_eq (c w v : Nat) : decide (0 < fb_ct (hrB n z G c w v) 32) = decide (0 < fb_ct (hrM n z G c w v) 64) := by
  rw [decide_eq_decide, fb_ct_pos, fb_ct_pos]
  constructor
  · rintro ⟨b, hb, k⟩
    unfold hrB at k
    simp only [Bool.and_eq_true, Bool.or_eq_true] at k
    obtain ⟨k1, k2 | k2⟩ := k
    · refine ⟨2 * b, by omega, ?_⟩
      unfold hrM
      rw [show 2 * b / 2 = b by omega, show 3 + 2 * b % 2 = 3 by omega, k1, k2]; rfl
    · refine ⟨2 * b + 1, by omega, ?_⟩
      unfold hrM
      rw [show (2 * b + 1) / 2 = b by omega, show 3 + (2 * b + 1) % 2 = 4 by omega, k1, k2]; rfl
  · rintro ⟨q, hq, k⟩
    unfold hrM at k
    simp only [Bool.and_eq_true] at k
    refine ⟨q / 2, by omega, ?_⟩
    unfold hrB
    rw [k.1]
    rcases (show q % 2 = 0 ∨ q % 2 = 1 by omega) with m | m
    · have := k.2
      rw [m] at this
      rw [show (3 : Nat) = 3 + 0 from rfl, this]; rfl
    · have := k.2
      rw [m] at this
      rw [show (4 : Nat) = 3 + 1 from rfl, this]; simp
theorem x_hasRep (ha : aP n z G) (hc : cP n z G (nI n) sz ci) (h : dF n z G cs0 av dd ca fs fb mb nb ra) (hN : 2000 ≤ N) {c w v : Nat} (hk : c < KK n z G) (hw : w = 3 ∨ w = 4) (hv : v < 10) :
    f_X4_hasReportOf N cs0 mb ci (nI c) (nI w) (nI v) = some (b1 (decide (0 < fb_ct (hrB n z G c w v) 32))) := by
  unfold f_X4_hasReportOf
  rcases hw with rfl | rfl
  · have main := lp_any (fun m i => lp_X4_hasReportOf_3 cs0 mb ci (nI c) (nI 3) (nI v) m (nI i)) 32 (hrB n z G c 3 v) (.inl ()) (.inr (.inr ()))
      (fun m => by
        simp only [lp_X4_hasReportOf_3]
        rw [if_pos (show (32 : Int32) ≤ nI 32 from by decide)])
      (fun m i hi => by
        simp only [lp_X4_hasReportOf_3]
        rw [if_neg (show ¬ (32 : Int32) ≤ nI i from nI_ge (b := 32) hi (by omega)), x_mem h hk hi, e_b1]
        unfold hrB
        cases ho : own n z G c i with
        | false => rw [show (fu n z G i && decide (FF n z G i = some c)) = false from ho, if_neg (by decide), e_nm, nI_1, if_neg (by simp)]
        | true =>
          have hth := fu_th (own_fu ho)
          have hv2 := th_v ha hth
          have hb := vF_b hv2
          rw [show (fu n z G i && decide (FF n z G i = some c)) = true from ho, if_pos (by decide), x_cite hi, e_b1, cP_c hc hth, if_neg (show ¬ ¬ nI 3 = 3 from fun j => j rfl), c_report hv2, e_b1, x_vol (by omega) hv, e_b1, Bool.true_and]
          cases lkV 3 v (G i 3) with
          | true => rw [if_pos (by decide), if_pos (by simp)]
          | false =>
            rw [if_neg (by decide), c_other hv2, e_b1, x_vol (by omega) hv, e_b1, Bool.false_or]
            cases lkV 3 v (G i 4) with
            | true => rw [if_neg (by decide), if_pos rfl]
            | false =>
              rw [if_pos (by decide), if_neg (by decide)]
              unfold j_X4_hasReportOf_65
              rw [if_pos (by decide), e_nm, nI_1])
      N (by omega)
    rw [show lp_X4_hasReportOf_3 cs0 mb ci (nI c) (nI 3) (nI v) N 0 = _ from main, e_b1]
    by_cases q : 0 < fb_ct (hrB n z G c 3 v) 32
    · rw [if_pos q, e_s2l, decide_eq_true q]; rfl
    · rw [if_neg q, e_s2r, e_s2r, decide_eq_false q]; rfl
  · have main := lp_any (fun m i => lp_X4_hasReportOf_3 cs0 mb ci (nI c) (nI 4) (nI v) m (nI i)) 32 (hrB n z G c 4 v) (.inr (.inl ())) (.inr (.inr ()))
      (fun m => by
        simp only [lp_X4_hasReportOf_3]
        rw [if_pos (show (32 : Int32) ≤ nI 32 from by decide)])
      (fun m i hi => by
        simp only [lp_X4_hasReportOf_3]
        rw [if_neg (show ¬ (32 : Int32) ≤ nI i from nI_ge (b := 32) hi (by omega)), x_mem h hk hi, e_b1]
        unfold hrB
        cases ho : own n z G c i with
        | false => rw [show (fu n z G i && decide (FF n z G i = some c)) = false from ho, if_neg (by decide), e_nm, nI_1, if_neg (by simp)]
        | true =>
          have hth := fu_th (own_fu ho)
          have hv2 := th_v ha hth
          have hb := vF_b hv2
          rw [show (fu n z G i && decide (FF n z G i = some c)) = true from ho, if_pos (by decide), x_cite hi, e_b1, cP_c hc hth, if_pos (show ¬ nI 4 = 3 by decide)]
          unfold j_X4_hasReportOf_65
          rw [if_neg (show ¬ ¬ nI 4 = 4 from fun j => j rfl), c_report hv2, e_b1, x_srs (by omega) hv, e_b1, Bool.true_and]
          cases lkV 4 v (G i 3) with
          | true => rw [if_pos (by decide), if_pos (by simp)]
          | false =>
            rw [if_neg (by decide), c_other hv2, e_b1, x_srs (by omega) hv, e_b1, Bool.false_or]
            cases lkV 4 v (G i 4) with
            | true => rw [if_neg (by decide), if_pos rfl]
            | false => rw [if_pos (by decide), if_neg (by decide), e_nm, nI_1])
      N (by omega)
    rw [show lp_X4_hasReportOf_3 cs0 mb ci (nI c) (nI 4) (nI v) N 0 = _ from main, e_b1]
    by_cases q : 0 < fb_ct (hrB n z G c 4 v) 32
    · rw [if_pos q, e_s2r, e_s2l, decide_eq_true q]; rfl
    · rw [if_neg q, e_s2r, e_s2r, decide_eq_false q]; rfl
theorem m_hasRep (ha : aP n z G) (hm : mP n z G p) (h : mF n z G c1 cf fi rn) (hN : 2000 ≤ N) {c w v : Nat} (hc : c < 32) (hw : w = 3 ∨ w = 4) (hv : v < 10) : f_X7_hasLike N fi p (nI c) (nI w) (nI v) = some (b1 (decide (0 < fb_ct (hrM n z G c w v) 64))) := by
  have main := lp_or (fun m i s => lp_X7_hasLike_6 fi p (nI c) (nI w) (nI v) m s (nI i)) 64 (hrM n z G c w v) (fun s => s)
    (fun m s => by
      simp only [lp_X7_hasLike_6]
      rw [if_pos (show (64 : Int32) ≤ nI 64 from by decide)])
    (fun m i b hi => by
      have d2 : nI i / 2 = nI (i / 2) := by rw [show (2 : Int32) = nI 2 from rfl, pk_div (by omega) (by omega) (by omega)]
      have m2 : nI i - nI i / 2 * 2 = nI (i % 2) := by rw [show (2 : Int32) = nI 2 from rfl, pk_rem (by omega) (by omega) (by omega)]
      simp only [lp_X7_hasLike_6]
      rw [if_neg (show ¬ (64 : Int32) ≤ nI i from nI_ge (b := 64) hi (by omega)), m2, d2, e_nm, m_all ha hm, e_b1, m_sp ha hm (full_31 n) (by omega), e_b1, sp_full ha]
      unfold hrM own
      cases hu : fu n z G (i / 2) with
      | false => rw [if_pos (by decide), e_nm, nI_1, Bool.false_and, Bool.false_and, Bool.or_false]
      | true =>
        have hth := fu_th hu
        have hb := vF_b (th_v ha hth)
        rw [if_neg (by decide), e_rd _ _ (by omega) (by omega), (h.2.2 _ (by omega)).1]
        by_cases q : FF n z G (i / 2) = some c
        · have hx : G (i / 2) (3 + i % 2) < 10000 := vF_lt (th_v ha hth) (by omega)
          rw [if_neg (fun k => k ((oI_c _ (fun d k => by have := FF_32 ha _ d k; omega) (by omega)).mpr q)), show (3 : Int32) + nI (i % 2) = nI (3 + i % 2) from a_add 3 (i % 2), m_refT ha hm hth (by omega), e_b1, decide_eq_true q, Bool.true_and, Bool.true_and]
          cases b with
          | true => rw [if_pos (by decide), e_nm, nI_1]; rfl
          | false =>
            rw [if_neg (by decide), Bool.false_or]
            generalize G (i / 2) (3 + i % 2) = x at hx ⊢
            unfold lkV
            by_cases q0 : x = 0
            · rw [if_pos (by rw [q0]; rfl), e_nm, nI_1, decide_eq_false (fun k => k q0)]; rfl
            · rw [if_neg (nI_ne0 (by omega) (by omega)), decide_eq_true q0, Bool.true_and]
              rcases hw with rfl | rfl
              · rw [if_neg (show ¬ ¬ nI 3 = 3 from fun j => j rfl), th_d (by omega), if_pos (show 3 = 3 from rfl)]
                by_cases q3 : x / 1000 = v
                · rw [if_neg (fun k => k (by rw [q3])), e_nm, nI_1, decide_eq_true q3]; rfl
                · rw [if_pos (fun k => q3 ((nI_eq (by omega) (by omega)).mp k)), e_nm, nI_1, decide_eq_false q3]; rfl
              · rw [if_pos (show ¬ nI 4 = 3 by decide), dg1 hx, if_neg (show ¬ 4 = 3 by decide)]
                by_cases q3 : x / 100 % 10 = v
                · rw [if_neg (fun k => k (by rw [q3])), e_nm, nI_1, decide_eq_true q3]; rfl
                · rw [if_pos (fun k => q3 ((nI_eq (by omega) (by omega)).mp k)), e_nm, nI_1, decide_eq_false q3]; rfl
        · rw [if_pos (fun k => q ((oI_c _ (fun d k => by have := FF_32 ha _ d k; omega) (by omega)).mp k)), e_nm, nI_1, decide_eq_false q]
          simp)
    N (by omega)
  unfold f_X7_hasLike
  rw [show lp_X7_hasLike_6 fi p (nI c) (nI w) (nI v) N 0 0 = _ from main, e_b1, e_u1, b1_bz]
noncomputable def soB (n : Nat) (z : Nat → Nat) (G : Nat → Nat → Nat) (c a v : Nat) : Bool := if a = 0 then decide (G (kf n z G c) 1 = v) else if a = 1 then decide (G (kf n z G c) 2 = v) else if a = 2 then (decide (v < 8) && fnd n z G v c) else decide (0 < fb_ct (hrB n z G c a v) 32)
theorem x_true (ha : aP n z G) (hc : cP n z G (nI n) sz ci) (h : dF n z G cs0 av dd ca fs fb mb nb ra) (hN : 2000 ≤ N) {c a v : Nat} (hk : c < KK n z G) (hA : a ≤ 4) (hv : v ≤ 9) : f_X4_isTrueOf N cs0 fs fb mb ci (nI c) (nI a) (nI v) = some (b1 (soB n z G c a v)) := by
  have hK := KK_le (n := n) (z := z) (G := G)
  have hrp := fu_rp ha (kf_ok ha hk).2
  have hvk := th_v ha (kf_th ha hk)
  unfold f_X4_isTrueOf soB
  rcases (show a = 0 ∨ a = 1 ∨ a = 2 ∨ a = 3 ∨ a = 4 by omega) with rfl | rfl | rfl | rfl | rfl
  · rw [if_pos (show nI 0 = 0 from rfl), if_pos rfl, x_fc ha hc h hk, e_b1, c_first hvk, e_b1, hrp.2.2.2.1, Nat.add_zero (G (kf n z G c) 1)]
    by_cases q : G (kf n z G c) 1 = v
    · rw [if_neg (fun j => j (by rw [q])), decide_eq_true q]; rfl
    · rw [if_pos (fun j => q ((nI_eq (by omega) (by omega)).mp j)), decide_eq_false q]; rfl
  · rw [if_neg (show ¬ nI 1 = 0 by decide), if_pos (show nI 1 = 1 from rfl), if_neg (by decide), if_pos rfl, x_fc ha hc h hk, e_b1, c_second hvk, e_b1]
    by_cases q : G (kf n z G c) 2 = v
    · rw [if_neg (fun j => j (by rw [q])), decide_eq_true q]; rfl
    · rw [if_pos (fun j => q ((nI_eq (by omega) (by omega)).mp j)), decide_eq_false q]; rfl
  · rw [if_neg (show ¬ nI 2 = 0 by decide), if_neg (show ¬ nI 2 = 1 by decide), if_pos (show nI 2 = 2 from rfl), if_neg (by decide), if_neg (by decide), if_pos rfl]
    by_cases q : v < 8
    · rw [x_ifn h (by omega) q, e_b1, b1_bz, decide_eq_true q, Bool.true_and]
    · have : f_X4_isFoundByNote fb (nI c) (nI v) = some 0 := by
        unfold f_X4_isFoundByNote f_X4_foundByNote
        rw [if_neg (nI_pos (by omega)), if_pos (show (8 : Int32) ≤ nI v from nI_le (a := 8) (by omega) (by omega)), e_b1]
        simp only [q_is _ (show c < 32 by omega), bt_0]
        rw [if_pos (by decide)]
      rw [this, e_b1, e_bz0, decide_eq_false q]; rfl
  · rw [if_neg (show ¬ nI 3 = 0 by decide), if_neg (show ¬ nI 3 = 1 by decide), if_neg (show ¬ nI 3 = 2 by decide), if_neg (by decide), if_neg (by decide), if_neg (by decide), x_hasRep ha hc h hN hk (Or.inl rfl) (by omega), e_b1, b1_bz]
  · rw [if_neg (show ¬ nI 4 = 0 by decide), if_neg (show ¬ nI 4 = 1 by decide), if_neg (show ¬ nI 4 = 2 by decide), if_neg (by decide), if_neg (by decide), if_neg (by decide), x_hasRep ha hc h hN hk (Or.inr rfl) (by omega), e_b1, b1_bz]
theorem m_hasI (x : Int32) {k : Nat} (hk : k < 32) : f_X7_has x (nI k) = some (b1 (bt x k)) := by
  unfold f_X7_has
  simp only [q_is x hk]
  cases bt x k <;> simp [b1]
theorem m_true (ha : aP n z G) (hm : mP n z G p) (h : mF n z G c1 cf fi rn) (hN : 2000 ≤ N) {c a v : Nat} (hk : c < KK n z G) (hA : a ≤ 4) (hv : v ≤ 9) : f_X7_isSo N cf fi p (nI c) (nI a) (nI v) = some (b1 (soB n z G c a v)) := by
  have hK := KK_le (n := n) (z := z) (G := G)
  have hb := vF_b (th_v ha (kf_th ha hk))
  unfold f_X7_isSo soB
  rcases (show a = 0 ∨ a = 1 ∨ a = 2 ∨ a = 3 ∨ a = 4 by omega) with rfl | rfl | rfl | rfl | rfl
  · rw [if_pos (show nI 0 = 0 from rfl), if_pos rfl, m_cfI ha hm h hk, e_b1]
    by_cases q : G (kf n z G c) 1 = v
    · rw [if_neg (fun j => j (by rw [q])), decide_eq_true q]; rfl
    · rw [if_pos (fun j => q ((nI_eq (by omega) (by omega)).mp j)), decide_eq_false q]; rfl
  · rw [if_neg (show ¬ nI 1 = 0 by decide), if_pos (show nI 1 = 1 from rfl), if_neg (by decide), if_pos rfl, show (2 : Int32) = nI 2 from rfl, m_cf ha hm h hk (by omega)]
    by_cases q : G (kf n z G c) 2 = v
    · rw [if_neg (fun j => j (by rw [q])), decide_eq_true q]; rfl
    · rw [if_pos (fun j => q ((nI_eq (by omega) (by omega)).mp j)), decide_eq_false q]; rfl
  · rw [if_neg (show ¬ nI 2 = 0 by decide), if_neg (show ¬ nI 2 = 1 by decide), if_pos (show nI 2 = 2 from rfl), if_neg (show ¬ (2 : Nat) = 0 by decide), if_neg (show ¬ (2 : Nat) = 1 by decide), if_pos (show (2 : Nat) = 2 from rfl)]
    by_cases q : v < 8
    · obtain ⟨y, y1, y2⟩ := m_notes ha h (N := N) (by omega) (c := c) (by omega)
      rw [if_neg (show ¬ (8 : Int32) ≤ nI v from nI_ge (b := 8) q (by omega)), y1, e_b1, m_hasI y (by omega), e_b1, y2 v (by omega)]
      cases decide (v < 8) && fnd n z G v c with
      | false => rw [if_pos (by decide)]; rfl
      | true => rw [if_neg (by decide)]; rfl
    · rw [if_pos (show (8 : Int32) ≤ nI v from nI_le (a := 8) (by omega) (by omega)), decide_eq_false q]; rfl
  · rw [if_neg (show ¬ nI 3 = 0 by decide), if_neg (show ¬ nI 3 = 1 by decide), if_neg (show ¬ nI 3 = 2 by decide), if_neg (by decide), if_neg (by decide), if_neg (by decide), m_hasRep ha hm h hN (by omega) (Or.inl rfl) (by omega), e_b1, b1_bz, hr_eq]
  · rw [if_neg (show ¬ nI 4 = 0 by decide), if_neg (show ¬ nI 4 = 1 by decide), if_neg (show ¬ nI 4 = 2 by decide), if_neg (by decide), if_neg (by decide), if_neg (by decide), m_hasRep ha hm h hN (by omega) (Or.inr rfl) (by omega), e_b1, b1_bz, hr_eq]
/-! the possible cases -/
noncomputable def mis (n : Nat) (z : Nat → Nat) (G : Nat → Nat → Nat) (A V W : Nat → Nat) (c i : Nat) : Bool := xor (soB n z G c (A i) (V i)) (decide (W i = 1))
noncomputable def poss (n : Nat) (z : Nat → Nat) (G : Nat → Nat → Nat) (A V W : Nat → Nat) (k c : Nat) : Bool := !decide (0 < fb_ct (mis n z G A V W c) k)
theorem x_poss {sc se : Int32} {sN sW sH mI mV mH : Nat → Int32} {k : Nat} {A V W : Nat → Nat} (hs : rS sc se sN sW sH mI mV mH k A V W) (ha : aP n z G) (hc : cP n z G (nI n) sz ci) (h : dF n z G cs0 av dd ca fs fb mb nb ra) (hN : 2000 ≤ N) {c : Nat} (hk : c < KK n z G) : f_X6_isPossible N sc cs0 fs fb mb ci sN sW sH (nI c) = some (b1 (poss n z G A V W k c)) := by
  obtain ⟨k6, rfl, rfl, hs⟩ := hs
  have main := lp_any (fun m i => lp_X6_isPossible_2 N (nI k) cs0 fs fb mb ci sN sW sH (nI c) m (nI i)) k (mis n z G A V W c) (.inl ()) (.inr ())
    (fun m => by
      simp only [lp_X6_isPossible_2]
      rw [if_pos (nI_le (Nat.le_refl _) (by omega))])
    (fun m i hi => by
      obtain ⟨h1, h2, h3, h4, h5, h6, h7, h8, h9⟩ := hs i hi
      have hj : ∀ w : Bool, j_X6_isPossible_31 (lp_X6_isPossible_2 N (nI k) cs0 fs fb mb ci sN sW sH (nI c) m) N cs0 fs fb mb ci sN sH (nI c) (nI i) (b1 w) = if (xor (soB n z G c (A i) (V i)) w) = true then some (.inl ()) else lp_X6_isPossible_2 N (nI k) cs0 fs fb mb ci sN sW sH (nI c) m (nI (i + 1)) := by
        intro w
        unfold j_X6_isPossible_31
        rw [e_rd _ _ (by omega) (by omega), h4, e_rd _ _ (by omega) (by omega), h6, x_true ha hc h hN hk h1 h2, e_b1, nI_1, e_nm]
        cases soB n z G c (A i) (V i) <;> cases w <;> rfl
      simp only [lp_X6_isPossible_2]
      rw [if_neg (nI_ge hi (by omega)), if_neg (show ¬ (6 : Int32) ≤ nI i from nI_ge (b := 6) (by omega) (by omega)), e_rd _ _ (by omega) (by omega), h8]
      unfold mis
      by_cases q : W i = 1
      · rw [if_neg (show ¬ ¬ nI (W i) = 1 from fun j => j (by rw [q]; rfl)), decide_eq_true q]
        exact hj true
      · rw [if_pos (show ¬ nI (W i) = 1 from fun j => q ((nI_eq (b := 1) (by omega) (by omega)).mp j)), decide_eq_false q]
        exact hj false)
    N (by omega)
  unfold f_X6_isPossible poss
  rw [show lp_X6_isPossible_2 N (nI k) cs0 fs fb mb ci sN sW sH (nI c) N 0 = _ from main, e_b1]
  by_cases q : 0 < fb_ct (mis n z G A V W c) k
  · rw [if_pos q, e_s2l, decide_eq_true q]; rfl
  · rw [if_neg q, e_s2r, decide_eq_false q]; rfl
theorem m_poss {sc se : Int32} {sN sW sH mI mV mH : Nat → Int32} {k : Nat} {A V W : Nat → Nat} (hs : rS sc se sN sW sH mI mV mH k A V W) (ha : aP n z G) (hm : mP n z G p) (h : mF n z G c1 cf fi rn) (hN : 2000 ≤ N) {c : Nat} (hk : c < KK n z G) : lp_X7_which_50 N se p mI mV mH (nI c) cf fi N 1 0 = some (b1 (poss n z G A V W k c)) := by
  obtain ⟨k6, rfl, rfl, hs⟩ := hs
  have main := lp_and (fun m i s => lp_X7_which_50 N (nI k) p mI mV mH (nI c) cf fi m s (nI i)) k (mis n z G A V W c) (fun s => s)
    (fun m s => by
      simp only [lp_X7_which_50]
      rw [if_pos (nI_le (Nat.le_refl _) (by omega))])
    (fun m i b hi => by
      obtain ⟨h1, h2, h3, h4, h5, h6, h7, h8, h9⟩ := hs i hi
      simp only [lp_X7_which_50]
      rw [if_neg (nI_ge hi (by omega))]
      cases b with
      | false => rw [if_pos (by decide), e_nm, nI_1]; rfl
      | true =>
        rw [if_neg (by decide), e_rd _ _ (by omega) (by omega), h5, e_rd _ _ (by omega) (by omega), h7, m_true ha hm h hN hk h1 h2, e_b1, e_rd _ _ (by omega) (by omega), h9, Bool.true_and]
        unfold mis
        by_cases q : W i = 1
        · rw [if_neg (show ¬ ¬ nI (W i) = 1 from fun j => j (by rw [q]; rfl)), decide_eq_true q]
          cases soB n z G c (A i) (V i) with
          | false => rw [if_pos (by decide), e_nm, nI_1]; rfl
          | true => rw [if_neg (by decide), e_nm, nI_1]; rfl
        · rw [if_pos (show ¬ nI (W i) = 1 from fun j => q ((nI_eq (b := 1) (by omega) (by omega)).mp j)), decide_eq_false q]
          cases soB n z G c (A i) (V i) with
          | false => rw [if_neg (by decide), e_nm, nI_1]; rfl
          | true => rw [if_pos (by decide), e_nm, nI_1]; rfl)
    N (by omega) true
  unfold poss
  exact main
def whR (P : Nat → Bool) : Nat → Int32 × Int32 → Int32 × Int32
  | 0, s => s
  | c + 1, s => whR P c (if P c = true then (s.1 + 1, nI c) else s)
theorem m1_add (c : Nat) : nI c + (-1 : Int32) = nI c - 1 := by rw [Int32.sub_eq_add_neg]
theorem neg_m1 : nI 0 - 1 < 0 := by decide
theorem x_wh {sc se : Int32} {sN sW sH mI mV mH : Nat → Int32} {k : Nat} {A V W : Nat → Nat} (hs : rS sc se sN sW sH mI mV mH k A V W) (ha : aP n z G) (hc : cP n z G (nI n) sz ci) (h : dF n z G cs0 av dd ca fs fb mb nb ra) (hN : 2000 ≤ N) : ∀ c M (x y : Int32), c ≤ KK n z G → c < M → lp_X6_which_35 N sc ci sN sW sH cs0 fs fb mb M x y (nI c - 1) = some (whR (poss n z G A V W k) c (x, y)) := by
  intro c
  induction c with
  | zero =>
    intro M x y _ hM
    obtain ⟨m, rfl⟩ : ∃ m, M = m + 1 := ⟨M - 1, by omega⟩
    simp only [lp_X6_which_35]
    rw [if_pos neg_m1]; rfl
  | succ c ih =>
    intro M x y hle hM
    have hK := KK_le (n := n) (z := z) (G := G)
    obtain ⟨m, rfl⟩ : ∃ m, M = m + 1 := ⟨M - 1, by omega⟩
    simp only [lp_X6_which_35]
    rw [show nI (c + 1) - 1 = nI c from nI_pred c, if_neg (nI_pos (by omega)), x_poss hs ha hc h hN (by omega), e_b1]
    show _ = some (whR (poss n z G A V W k) c (if poss n z G A V W k c = true then ((x, y).1 + 1, nI c) else (x, y)))
    cases poss n z G A V W k c with
    | false => rw [if_neg (by decide), e_nm, m1_add, ih m x y (by omega) (by omega), if_neg (by decide)]
    | true => rw [if_pos (by decide), e_nm, e_nm, m1_add, ih m _ _ (by omega) (by omega), if_pos rfl]
theorem m_wh {sc se : Int32} {sN sW sH mI mV mH : Nat → Int32} {k : Nat} {A V W : Nat → Nat} (hs : rS sc se sN sW sH mI mV mH k A V W) (ha : aP n z G) (hm : mP n z G p) (h : mF n z G c1 cf fi rn) (hN : 2000 ≤ N) : ∀ c M (x y : Int32), c ≤ KK n z G → c < M → lp_X7_which_39 N se p mI mV mH cf fi M x y (nI c - 1) = some (whR (poss n z G A V W k) c (x, y)) := by
  intro c
  induction c with
  | zero =>
    intro M x y _ hM
    obtain ⟨m, rfl⟩ : ∃ m, M = m + 1 := ⟨M - 1, by omega⟩
    simp only [lp_X7_which_39]
    rw [if_pos neg_m1]; rfl
  | succ c ih =>
    intro M x y hle hM
    have hK := KK_le (n := n) (z := z) (G := G)
    obtain ⟨m, rfl⟩ : ∃ m, M = m + 1 := ⟨M - 1, by omega⟩
    simp only [lp_X7_which_39]
    rw [show nI (c + 1) - 1 = nI c from nI_pred c, if_neg (nI_pos (by omega)), m_poss hs ha hm h hN (by omega), e_b1, e_u1]
    show _ = some (whR (poss n z G A V W k) c (if poss n z G A V W k c = true then ((x, y).1 + 1, nI c) else (x, y)))
    cases poss n z G A V W k c with
    | false => rw [if_pos bt0, e_nm, if_pos bt0, e_nm, m1_add, i_p0, ih m x y (by omega) (by omega), if_neg (by decide)]
    | true => rw [if_neg bt1, e_nm, if_neg bt1, e_nm, m1_add, ih m _ _ (by omega) (by omega), if_pos rfl]
theorem s_which {sc se : Int32} {sN sW sH mI mV mH : Nat → Int32} (ho : rO sc se sN sW sH mI mV mH) (hn : rN B nt ver ci sz (lv, sv, pr, fl, cs0, ct, av, dd, ca, fs, fb, lk, mb, nb, ra) pv fp dp pg) (hN : 2000 ≤ N) (t0 p1 : Int32) :
    ∃ (a lv' sv' pr' fl' cs' ct' av' dd' : Int32) (ca' fs' fb' lk' mb' nb' ra' : Nat → Int32) (c0' l0' : Int32) (cf' fi' lb' rn' : Nat → Int32), f_X6_which N sc lv sv pr fl cs0 ct av dd ca fs fb lk mb nb nt ver ci sz ra sN sW sH p1 = some (a, lv', sv', pr', fl', cs', ct', av', dd', ca', fs', fb', lk', mb', nb', ra') ∧ f_X7_which N t0 se c0 l0 cf0 fi0 lb0 pg rn0 mI mV mH p1 = some (a, 0, c0', l0', cf', fi', lb', rn') ∧
      rN B nt ver ci sz (lv', sv', pr', fl', cs', ct', av', dd', ca', fs', fb', lk', mb', nb', ra') pv fp dp pg := by
  obtain ⟨k, A, V, W, hs⟩ := ho
  have hn0 := hn
  obtain ⟨n, z, G, v, h1, rfl, ha, rfl, hc, hm, h7, h8, h9, h10⟩ := hn
  generalize hX : f_X6_which _ _ _ _ _ _ _ _ _ _ _ _ _ _ _ _ _ _ _ _ _ _ _ _ _ = X
  generalize hY : f_X7_which _ _ _ _ _ _ _ _ _ _ _ _ _ _ = Y
  unfold f_X6_which at hX
  unfold f_X7_which at hY
  rcases in_r p1 (b := 1) (by omega) with ⟨a, hA, rfl, a1, a2, a3, a4⟩ | ⟨a1, a2⟩
  · have hK := KK_le (n := n) (z := z) (G := G)
    obtain ⟨pr2, fl2, cs2, ct2, av2, dd2, ca2, fs2, fb2, lk2, mb2, nb2, ra2, e1, e2, e3⟩ := x_studyF ha hc hN h7
    obtain ⟨c1, l1, cf, fi, lb, rn, f1, f2⟩ := m_FA ha hm hN c0 l0 cf0 fi0 lb0 rn0
    have w1 := x_wh hs ha hc e3 hN (KK n z G) N 0 (-9) (Nat.le_refl _) (by omega)
    have w2 := m_wh hs ha hm f2 hN (KK n z G) N 0 (-9) (Nat.le_refl _) (by omega)
    rw [if_neg a2, if_pos (show nI a ≤ 1 from a3), e1, e_b15, show f_X4_cases cs2 = some cs2 from rfl, e_b1, e_nm, show cs2 - 1 = nI (KK n z G) - 1 from by rw [← e3.1], w1, e_b1] at hX
    rw [show f_X7_in (nI a).toInt64 0 1 = some 1 from a1, e_b1, if_pos (by decide), f1, e_b6, e_nm, show c1 - 1 = nI (KK n z G) - 1 from by rw [← f2.1], w2, e_b1] at hY
    have hst : rN B (nI n) (nI v) ci sz (nI v, nI v, pr2, fl2, cs2, ct2, av2, dd2, ca2, fs2, fb2, lk2, mb2, nb2, ra2) pv fp dp pg := rN_st h1 ha hc hm h8 h9 h10 (sK_st e2 e3) (Or.inr ⟨rfl, rfl⟩)
    generalize hR : whR (poss n z G A V W k) (KK n z G) (0, -9) = r at hX hY
    obtain ⟨x, y⟩ := r
    rw [e_u2] at hX hY
    by_cases q : nI a = 0
    · rw [if_neg (fun j => j q)] at hX hY
      subst hX hY
      exact ⟨_, _, _, _, _, _, _, _, _, _, _, _, _, _, _, _, _, _, _, _, _, _, rfl, rfl, hst⟩
    · rw [if_pos q] at hX hY
      subst hX hY
      exact ⟨_, _, _, _, _, _, _, _, _, _, _, _, _, _, _, _, _, _, _, _, _, _, rfl, rfl, hst⟩
  · rw [show f_X7_in p1.toInt64 0 1 = some 0 from a1, e_b1, if_neg (fun j => j rfl)] at hY
    subst hY
    rcases a2 with a2 | ⟨a2, a3, a4⟩
    · rw [if_pos a2] at hX
      subst hX
      exact ⟨_, _, _, _, _, _, _, _, _, _, _, _, _, _, _, _, _, _, _, _, _, _, rfl, rfl, hn0⟩
    · rw [if_neg a2, if_neg (show ¬ p1 ≤ 1 from a4)] at hX
      subst hX
      exact ⟨_, _, _, _, _, _, _, _, _, _, _, _, _, _, _, _, _, _, _, _, _, _, rfl, rfl, hn0⟩
end
