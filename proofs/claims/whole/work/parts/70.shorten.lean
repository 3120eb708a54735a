/-! the shorter form of a reference, on both sides -/
section
variable {n : Nat} {z : Nat → Nat} {G : Nat → Nat → Nat} {p sz : Nat → Int32} {ci : Nat → Int64} {L N : Nat} {ver lv sv pr cs0 ct av dd fl c1 c0 l0 : Int32} {ca fs fb mb nb ra lk cf fi rn cf0 fi0 lb0 rn0 : Nat → Int32}
theorem en_sh (a : Nat) : en (mk8 1 0 0 0 0 a 0 0) = ce 1 a 0 0 0 0 0 := by
  show ce 1 (0 + a) 0 0 0 0 0 = _
  rw [Nat.zero_add]
theorem en_ab (a b : Nat) : en (mk8 3 0 0 0 0 a b 0) = ce 3 a 0 0 0 0 b := by
  show ce 3 (0 + a) 0 0 0 0 b = _
  rw [Nat.zero_add]
theorem x_named {t : Nat} (ht : t < 6) : f_X4_namedWith nb (nI t) = some (nb t) := by
  unfold f_X4_namedWith
  rw [if_neg (nI_pos (by omega)), if_neg (show ¬ (6 : Int32) ≤ nI t from nI_ge (b := 6) ht (by omega)), e_rd _ _ ht (by omega)]
theorem x_cited (h : dF n z G cs0 av dd ca fs fb mb nb ra) (hN : 2000 ≤ N) {r : Nat} (hr : r < 32) (ha : aP n z G) : ∃ x, f_X4_citedBefore N cs0 fs (nI r) = some x ∧ ∀ d, d < 32 → bt x d = (decide (d < KK n z G) && decide (kf n z G d < r)) := by
  have hK := KK_le (n := n) (z := z) (G := G)
  have main := lp_up (fun n' i (s : Int32) => lp_X4_citedBefore_4 cs0 fs (nI r) n' s (nI i)) (KK n z G) (fun i s => ∀ j, j < 32 → bt s j = (decide (j < i) && decide (kf n z G j < r))) (fun s => ∀ j, j < 32 → bt s j = (decide (j < KK n z G) && decide (kf n z G j < r)))
    (fun m s q => ⟨s, by
      simp only [lp_X4_citedBefore_4]
      rw [if_pos (show cs0 ≤ nI (KK n z G) from by rw [h.1]; exact nI_le (Nat.le_refl _) (by omega))], q⟩)
    (fun m i s hi q => by
      right
      have hkf := (kf_ok ha hi).1
      simp only [lp_X4_citedBefore_4]
      rw [if_neg (show ¬ cs0 ≤ nI i from by rw [h.1]; exact nI_ge hi (by omega)), if_neg (show ¬ (32 : Int32) ≤ nI i from nI_ge (b := 32) (by omega) (by omega)), e_rd _ _ (by omega) (by omega), h.2.1 i hi]
      by_cases w : kf n z G i < r
      · refine ⟨s ||| ((1 : Int32) <<< (nI i &&& 31)), fun j hj => ?_, by rw [if_neg (nI_ge w (by omega)), e_nm, e_nm, nI_1]⟩
        rw [bt_set _ (by omega) hj, q j hj]
        by_cases e : j = i
        · subst e; simp [w]
        · rw [show decide (j < i) = decide (j < i + 1) from by rw [decide_eq_decide]; omega]; simp [e]
      · refine ⟨s, fun j hj => ?_, by rw [if_pos (nI_le (by omega) (by omega)), e_nm, nI_1]⟩
        rw [q j hj]
        by_cases e : j = i
        · subst e; simp [w]
        · rw [show decide (j < i) = decide (j < i + 1) from by rw [decide_eq_decide]; omega])
    N 0 0 (by omega) (by omega) (fun j _ => by rw [bt_0]; simp)
  obtain ⟨s, a1, a2⟩ := main
  refine ⟨s, ?_, a2⟩
  unfold f_X4_citedBefore
  rw [show lp_X4_citedBefore_4 cs0 fs (nI r) N 0 0 = some s from a1, e_b1, e_u1]
theorem x_ptF (ha : aP n z G) (hc : cP n z G (nI n) sz ci) {r : Nat} (h : th n z r = true) : f_X4_pointedAt (nI n) sz (nI (r / 4)) (nI (r % 4)) (nI (r / 4) - 1) = some (oJ (pt n z (full n) r)) := by
  have h8 := ha.1
  have w := of_decide_eq_true h
  have e : nI (r / 4) - 1 = oJ (lastN n (full n) (r / 4)) := by
    cases hq : r / 4 with
    | zero => show nI 0 - 1 = oJ none; decide
    | succ k =>
      rw [lastN_s, full_bit n (by omega) k (by omega), if_pos (by simp; omega), nI_pred]
      rfl
  rw [e, x_pt ha hc (by omega) (by omega), show 4 * (r / 4) + r % 4 = r by omega]
theorem x_shF (ha : aP n z G) (hc : cP n z G (nI n) sz ci) (h : dF n z G cs0 av dd ca fs fb mb nb ra) (hN : 2000 ≤ N) {r c : Nat} (hr : th n z r = true) (hF : FF n z G r = some c) :
    f_X4_shortestSpelling N cs0 ca fs fb nb (nI n) ci sz (nI r) = some (lN (en (shF n z G r c))) := by
  have h8 := ha.1
  have r32 := th_lt hr h8
  have hk := FF_K ha r r32 c hF
  have hK := KK_le (n := n) (z := z) (G := G)
  have hrp := fu_rp ha (kf_ok ha hk).2
  have hv := th_v ha (kf_th ha hk)
  have hlt := hrp.2.1
  have w := of_decide_eq_true hr
  have e4 : nI r - nI (r / 4) * 4 = nI (r % 4) := by rw [← div4 r (by omega)]; exact mod4 r (by omega)
  have j42 : ¬ tF n z G r 2 0 0 = some c → j_X4_shortestSpelling_42 N cs0 fs fb nb ci (nI r) (nI c) (nI (r / 4)) = some (lN (en (shF n z G r c))) := by
    intro q1
    unfold j_X4_shortestSpelling_42 shF
    obtain ⟨x, x1, x2⟩ := x_cited h hN r32 ha
    rw [if_neg q1, x_fc ha hc h hk, e_b1, c_first hv, e_b1, hrp.2.2.2.1, Nat.add_zero (G (kf n z G c) 1), e_nm, x_named hlt, e_b1, x1, e_b1]
    have u1 : (nb (G (kf n z G c) 1) &&& x) = (1 : Int32) <<< (nI c &&& 31) ↔ tF n z G r 1 (G (kf n z G c) 1) 0 = some c := by
      rw [tF_1]
      refine uni_iff hK hk (fun d hd => ?_)
      rw [b_and, h.2.2.2.1 _ hlt d hd, x2 d hd]
      unfold QS kf
      cases decide (d < KK n z G) <;> cases decide (G (kth (fk n z G) d) 1 = G (kth (fk n z G) c) 1) <;> cases decide (kth (fk n z G) d < r) <;> rfl
    by_cases q2 : tF n z G r 1 (G (kf n z G c) 1) 0 = some c
    · rw [if_neg (fun k => k (u1.mpr q2)), x_makeShort (by omega), e_b1, if_pos q2, en_sh]
    · rw [if_pos (fun k => q2 (u1.mp k)), if_neg q2]
      have la := fa_first_le (fun a => decide (tF n z G r 3 (G (kf n z G c) 1) a = some c)) (r / 4)
      have u3 : ∀ a, a < r / 4 → ((fb a &&& nb (G (kf n z G c) 1)) = (1 : Int32) <<< (nI c &&& 31) ↔ tF n z G r 3 (G (kf n z G c) 1) a = some c) := by
        intro a hA
        rw [tF_3 ha hr hA]
        refine uni_iff hK hk (fun d hd => ?_)
        rw [b_and, h.2.2.2.1 _ hlt d hd, h.2.2.2.2.2.1 a d (by omega) hd]
        unfold QA kf
        cases decide (d < KK n z G) <;> cases decide (G (kth (fk n z G) d) 1 = G (kth (fk n z G) c) 1) <;> cases fndU n z (full n) (FF n z G) a d 4 <;> rfl
      have k1 := lp_up (fun m i (_ : Unit) => lp_X4_shortestSpelling_83 fb nb (nI (r / 4)) (nI (G (kf n z G c) 1)) ((1 : Int32) <<< (nI c &&& 31)) m (nI i)) (r / 4) (fun i _ => i ≤ abF n z G r c) (fun b => b = if abF n z G r c < r / 4 then .inl (nI (abF n z G r c)) else .inr ())
        (fun m s k => ⟨_, by
          simp only [lp_X4_shortestSpelling_83]
          rw [if_pos (nI_le (Nat.le_refl _) (by omega))], by rw [if_neg (by omega)]⟩)
        (fun m i s hi k => by
          simp only [lp_X4_shortestSpelling_83]
          rw [if_neg (nI_ge hi (by omega)), x_fbn (by omega), e_b1, x_named hlt, e_b1]
          by_cases q3 : tF n z G r 3 (G (kf n z G c) 1) i = some c
          · have : abF n z G r c = i := by
              rcases Nat.lt_or_ge i (abF n z G r c) with g | g
              · have := fa_first_no (fun a => decide (tF n z G r 3 (G (kf n z G c) 1) a = some c)) (r / 4) i g
                simp [q3] at this
              · omega
            exact Or.inl ⟨_, by rw [if_neg (fun k => k ((u3 i hi).mpr q3))], by rw [this, if_pos hi]⟩
          · refine Or.inr ⟨(), ?_, by rw [if_pos (fun k => q3 ((u3 i hi).mp k)), e_nm, nI_1]⟩
            rcases Nat.lt_or_ge i (abF n z G r c) with g | g
            · omega
            · have e : abF n z G r c = i := by omega
              have := fa_first_yes (fun a => decide (tF n z G r 3 (G (kf n z G c) 1) a = some c)) (r / 4) (by show abF n z G r c < r / 4; omega)
              rw [show fa_first (fun a => decide (tF n z G r 3 (G (kf n z G c) 1) a = some c)) (r / 4) = i from e] at this
              exact absurd (of_decide_eq_true this) q3)
        N 0 () (by omega) (by omega) (Nat.zero_le _)
      obtain ⟨b, b1, b2⟩ := k1
      rw [show lp_X4_shortestSpelling_83 fb nb (nI (r / 4)) (nI (G (kf n z G c) 1)) ((1 : Int32) <<< (nI c &&& 31)) N 0 = some b from b1, b2, e_b1]
      by_cases q3 : abF n z G r c < r / 4
      · rw [if_pos q3, if_pos q3, e_s2l, e_u1, x_makeAbove (by omega) (by omega), e_b1, en_ab]
      · rw [if_neg q3, if_neg q3, e_s2r, e_u0, e_b1]
  unfold f_X4_shortestSpelling
  rw [x_caseOf r32, e_b1, (h.2.2.2.2.1 r r32 hr).1, hF, oJ_s, div4 r (by omega), e_nm, e4, x_ptF ha hc hr, e_b1]
  have t2 := tF_2 (n := n) (z := z) (G := G) r
  cases hp : pt n z (full n) r with
  | none =>
    rw [hp] at t2
    simp only at t2
    rw [if_pos (by decide), j42 (by rw [t2]; intro k; cases k)]
  | some q =>
    rw [hp] at t2
    simp only at t2
    have hq := pt_lt hp
    have hql := pt_lf ha (by rw [lf_full ha]; exact hr) hp
    rw [lf_full ha] at hql
    rw [oJ_s, if_neg (nI_pos (by omega)), x_caseOf (by omega), e_b1, (h.2.2.2.2.1 q (by omega) hql).1]
    by_cases g : FF n z G q = some c
    · rw [g, oJ_s, if_neg (fun k => k rfl), x_makeSame, e_b1]
      unfold shF
      rw [if_pos (by rw [t2, g])]
      rfl
    · have : ¬ oJ (FF n z G q) = nI c := by
        cases hd : FF n z G q with
        | none => exact m1_nI (by omega)
        | some d =>
          have := FF_32 ha q d hd
          rw [oJ_s]
          intro k
          rw [(nI_eq (by omega) (by omega)).mp k] at hd
          exact g hd
      rw [if_pos this, j42 (by rw [t2]; exact g)]
theorem x_shB (ha : aP n z G) (hc : cP n z G (nI n) sz ci) (hfl : ∀ b, b < 32 → bt fl b = fu n z G b) (h : dF n z G cs0 av dd ca fs fb mb nb ra) (hN : 2000 ≤ N) {r : Nat} (hr : th n z r = true) :
    f_X4_shortened N fl cs0 ca fs fb nb (nI n) ci sz (nI r) = some (lN (en (shB n z G r))) := by
  have r32 := th_lt hr ha.1
  have hv := th_v ha hr
  have hb := vF_b hv
  unfold f_X4_shortened shB
  rw [x_cite r32, e_b1, x_caseOf r32, e_b1, (h.2.2.2.2.1 r r32 hr).1, cP_c hc hr]
  cases hF : FF n z G r with
  | none => rw [if_neg (by decide)]
  | some c =>
    have hk := FF_K ha r r32 c hF
    have hK := KK_le (n := n) (z := z) (G := G)
    have hj : j_X4_shortened_37 N cs0 ca fs fb nb (nI n) ci sz (nI r) (lN (en (G r))) = some (lN (en (wp (shF n z G r c) (G r 7)))) := by
      unfold j_X4_shortened_37
      rw [x_shF ha hc h hN hr hF, e_b1, c_pin hv, e_b1, c_withPin (shF_v ha hr hk) (by omega), e_b1]
    simp only
    rw [oJ_s, if_pos (nI_pos' (by omega)), x_isFull r32, hfl r r32, e_b1, hj]
    unfold stB
    cases hu : fu n z G r with
    | false =>
      have : ¬ G r 0 = 0 := fun k => by
        unfold fu at hu
        rw [hr, k] at hu
        cases hu
      rw [if_pos (by decide), decide_eq_false this, Bool.false_and, if_neg (by decide)]
    | true =>
      rw [if_neg (by decide), x_cov ha hc hfl hN hu, e_b1, decide_eq_true (fu_0 hu), Bool.true_and]
      cases decide (0 < fb_ct (covB n z G r) r) with
      | true => rw [if_pos (by decide), if_neg (by decide)]
      | false => rw [if_neg (by decide), if_pos (by decide)]
/-! the reference's -/
theorem m_toldF (ha : aP n z G) (hm : mP n z G p) (h : mF n z G c1 cf fi rn) (hN : 2000 ≤ N) {r kd lt fg : Nat} (hr : r < 32) (hk : kd = 1 ∨ kd = 2 ∨ kd = 3) (hlt : lt < 1000) (hfg : fg < 100) (lr : Int32) :
    ∃ lr', f_X7_told N c1 lr cf fi p (nI (full n)) (nI r) (nI kd) (nI lt) (nI fg) = some (oI (tF n z G r kd lt fg), lr') :=
  ⟨_, m_told ha hm (full_31 n) hN (c1 := c1) (cf := cf) (lab := (TC n z G (full n)).1) ⟨h.1, h.2.1⟩ hr hk hlt hfg (fun q hq => (h.2.2 q (by omega)).1) (FF_32 ha) lr⟩
theorem m_tp {bf : Nat → Int32} (ha : aP n z G) (hm : mP n z G p) (hN : 2000 ≤ N) {r : Nat} (h : th n z r = true) : ∃ g, lp_X7_shorten_2 p (nI r) N 0 bf = some g ∧ ∀ i, i < 8 → g i = nI (G r i) := by
  have main := lp_up (fun m i (s : Nat → Int32) => lp_X7_shorten_2 p (nI r) m (nI i) s) 8 (fun i s => ∀ j, j < i → s j = nI (G r j)) (fun s => ∀ j, j < 8 → s j = nI (G r j))
    (fun m s q => ⟨s, by
      simp only [lp_X7_shorten_2]
      rw [if_pos (show (8 : Int32) ≤ nI 8 from by decide)], q⟩)
    (fun m i s hi q => by
      refine Or.inr ⟨upd s i (nI (G r i)), fun j hj => ?_, ?_⟩
      · by_cases e : j = i
        · subst e; exact upd_s _ _ _
        · rw [upd_n _ _ e]; exact q j (by omega)
      · simp only [lp_X7_shorten_2]
        rw [if_neg (show ¬ (8 : Int32) ≤ nI i from nI_ge (b := 8) hi (by omega)), m_refT ha hm h hi, e_b1, e_wrI _ _ _ hi (by omega), e_nm, nI_1])
    N 0 bf (by omega) (by omega) (fun j hj => by omega)
  exact main
theorem m_lsp {bf : Nat → Int32} (ha : aP n z G) (hm : mP n z G p) (h : mF n z G c1 cf fi rn) (hN : 2000 ≤ N) {c v : Nat} (hk : c < KK n z G) (hb : bf 7 = nI v) : ∃ g, f_X7_laySpelled N bf cf p (nI c) = some g ∧ ∀ i, i < 8 → g i = nI (wp (G (kf n z G c)) v i) := by
  have hK := KK_le (n := n) (z := z) (G := G)
  have main := lp_up (fun m i (s : Nat → Int32) => lp_X7_laySpelled_2 cf p (nI c) m (nI i) s) 7 (fun i s => s 7 = nI v ∧ ∀ j, j < i → s j = nI (G (kf n z G c) j)) (fun s => s 7 = nI v ∧ ∀ j, j < 7 → s j = nI (G (kf n z G c) j))
    (fun m s q => ⟨s, by
      simp only [lp_X7_laySpelled_2]
      rw [if_pos (show (7 : Int32) ≤ nI 7 from by decide)], q⟩)
    (fun m i s hi q => by
      refine Or.inr ⟨upd s i (nI (G (kf n z G c) i)), ⟨?_, fun j hj => ?_⟩, ?_⟩
      · rw [upd_n _ _ (by omega)]; exact q.1
      · by_cases e : j = i
        · subst e; exact upd_s _ _ _
        · rw [upd_n _ _ e]; exact q.2 j (by omega)
      · simp only [lp_X7_laySpelled_2]
        rw [if_neg (show ¬ (7 : Int32) ≤ nI i from nI_ge (b := 7) hi (by omega)), m_cf ha hm h hk (by omega), e_wrI _ _ _ (by omega) (by omega), e_nm, nI_1])
    N 0 bf (by omega) (by omega) ⟨hb, fun j hj => by omega⟩
  obtain ⟨g, g1, g2, g3⟩ := main
  refine ⟨g, ?_, fun i hi => ?_⟩
  · unfold f_X7_laySpelled
    rw [show lp_X7_laySpelled_2 cf p (nI c) N 0 bf = some g from g1, e_b1, e_u1]
  · unfold wp
    by_cases e : i = 7
    · subst e; rw [if_pos rfl, g2]
    · rw [if_neg e, g3 i (by omega)]
theorem m_lbr {bf : Nat → Int32} {k a b v : Nat} (hb : bf 7 = nI v) : ∃ g, f_X7_layBrief bf (nI k) (nI a) (nI b) = some g ∧ ∀ i, i < 8 → g i = nI (wp (mk8 k 0 0 0 0 a b 0) v i) := by
  unfold f_X7_layBrief
  rw [show (0 : Int32) = nI 0 from rfl, show (1 : Int32) = nI 1 from rfl, show (2 : Int32) = nI 2 from rfl, show (3 : Int32) = nI 3 from rfl, show (4 : Int32) = nI 4 from rfl, show (5 : Int32) = nI 5 from rfl, show (6 : Int32) = nI 6 from rfl,
    e_wrI _ _ _ (by omega) (by omega), e_wrI _ _ _ (by omega) (by omega), e_wrI _ _ _ (by omega) (by omega), e_wrI _ _ _ (by omega) (by omega), e_wrI _ _ _ (by omega) (by omega), e_wrI _ _ _ (by omega) (by omega), e_wrI _ _ _ (by omega) (by omega)]
  refine ⟨_, rfl, fun i hi => ?_⟩
  rcases i8 hi with rfl | rfl | rfl | rfl | rfl | rfl | rfl | rfl
  · rfl
  · rfl
  · rfl
  · rfl
  · rfl
  · rfl
  · rfl
  · exact hb
theorem m_shB {bf : Nat → Int32} (ha : aP n z G) (hm : mP n z G p) (h : mF n z G c1 cf fi rn) (hN : 2000 ≤ N) {r : Nat} (hr : th n z r = true) (lr : Int32) :
    ∃ lr' g, f_X7_shorten N c1 lr bf cf fi p (nI r) = some (lr', g) ∧ ∀ i, i < 8 → g i = nI (shB n z G r i) := by
  have h8 := ha.1
  have r32 := th_lt hr h8
  have hv := th_v ha hr
  have hb := vF_b hv
  have w := of_decide_eq_true hr
  obtain ⟨g0, g1, g2⟩ := m_tp (bf := bf) ha hm hN hr
  unfold f_X7_shorten
  rw [g1, e_b1, e_u1, e_rd _ _ r32 (by omega), (h.2.2 r r32).1]
  cases hF : FF n z G r with
  | none =>
    rw [if_pos (show oI none = -9 from rfl)]
    refine ⟨_, _, rfl, fun i hi => ?_⟩
    unfold shB
    rw [hF]
    exact g2 i hi
  | some c =>
    have hk := FF_K ha r r32 c hF
    have hK := KK_le (n := n) (z := z) (G := G)
    have hrp := fu_rp ha (kf_ok ha hk).2
    have hlt := hrp.2.1
    have esh : shB n z G r = if stB n z G r = true then G r else wp (shF n z G r c) (G r 7) := by unfold shB; rw [hF]
    rw [esh]
    rw [oI_s, if_neg (n_m9 (by omega)), m_stays ha hm hN hr, e_b1]
    cases hst : stB n z G r with
    | true =>
      rw [if_neg (by decide), if_pos rfl]
      exact ⟨_, _, rfl, g2⟩
    | false =>
      have hg7 := g2 7 (by omega)
      obtain ⟨l2, t2⟩ := m_toldF ha hm h hN (r := r) (kd := 2) (lt := 0) (fg := 0) r32 (by omega) (by omega) (by omega) lr
      rw [if_pos (by decide), if_neg (by decide), m_all ha hm, e_b1, m_cfI ha hm h hk, e_b1, show f_X7_told N c1 lr cf fi p (nI (full n)) (nI r) 2 0 0 = _ from t2, e_b2]
      unfold shF
      by_cases q1 : tF n z G r 2 0 0 = some c
      · rw [if_neg (fun k => k ((oI_c _ (fun d w => by have := tF_32 ha w; omega) (by omega)).mpr q1)), if_pos q1]
        obtain ⟨g, k1, k2⟩ := m_lbr (k := 2) (a := 0) (b := 0) hg7
        rw [show f_X7_layBrief g0 2 0 0 = _ from k1, e_b1]
        exact ⟨_, _, rfl, k2⟩
      · obtain ⟨l1, t1⟩ := m_toldF ha hm h hN (r := r) (kd := 1) (lt := G (kf n z G c) 1) (fg := 0) r32 (by omega) (by omega) (by omega) l2
        rw [if_pos (fun k => q1 ((oI_c _ (fun d w => by have := tF_32 ha w; omega) (by omega)).mp k)), if_neg q1, show f_X7_told N c1 l2 cf fi p (nI (full n)) (nI r) 1 (nI (G (kf n z G c) 1)) 0 = _ from t1, e_b2]
        by_cases q2 : tF n z G r 1 (G (kf n z G c) 1) 0 = some c
        · rw [if_neg (fun k => k ((oI_c _ (fun d w => by have := tF_32 ha w; omega) (by omega)).mpr q2)), if_pos q2]
          obtain ⟨g, k1, k2⟩ := m_lbr (k := 1) (a := G (kf n z G c) 1) (b := 0) hg7
          rw [show f_X7_layBrief g0 1 (nI (G (kf n z G c) 1)) 0 = _ from k1, e_b1]
          exact ⟨_, _, rfl, k2⟩
        · rw [if_pos (fun k => q2 ((oI_c _ (fun d w => by have := tF_32 ha w; omega) (by omega)).mp k)), if_neg q2]
          have la := fa_first_le (fun a => decide (tF n z G r 3 (G (kf n z G c) 1) a = some c)) (r / 4)
          have k1 := lp_up (fun m i (s : Int32) => lp_X7_shorten_113 N c1 cf fi p (nI r) (nI c) (nI (full n)) (nI (G (kf n z G c) 1)) m (nI i) s) (r / 4) (fun i _ => i ≤ abF n z G r c) (fun b => if abF n z G r c < r / 4 then ∃ l, b = .inl (nI (abF n z G r c), l) else ∃ l, b = .inr l)
            (fun m s k => ⟨_, by
              simp only [lp_X7_shorten_113]
              rw [div4 r (by omega), if_pos (nI_le (Nat.le_refl _) (by omega))], by rw [if_neg (by omega)]; exact ⟨_, rfl⟩⟩)
            (fun m i s hi k => by
              obtain ⟨l3, t3⟩ := m_toldF ha hm h hN (r := r) (kd := 3) (lt := G (kf n z G c) 1) (fg := i) r32 (by omega) (by omega) (by omega) s
              simp only [lp_X7_shorten_113]
              rw [div4 r (by omega), if_neg (nI_ge hi (by omega)), show f_X7_told N c1 s cf fi p (nI (full n)) (nI r) 3 (nI (G (kf n z G c) 1)) (nI i) = _ from t3, e_b2]
              by_cases q3 : tF n z G r 3 (G (kf n z G c) 1) i = some c
              · have : abF n z G r c = i := by
                  rcases Nat.lt_or_ge i (abF n z G r c) with g | g
                  · have := fa_first_no (fun a => decide (tF n z G r 3 (G (kf n z G c) 1) a = some c)) (r / 4) i g
                    simp [q3] at this
                  · omega
                exact Or.inl ⟨_, by rw [if_neg (fun k => k ((oI_c _ (fun d w => by have := tF_32 ha w; omega) (by omega)).mpr q3))], by rw [this, if_pos hi]; exact ⟨_, rfl⟩⟩
              · refine Or.inr ⟨l3, ?_, by rw [if_pos (fun k => q3 ((oI_c _ (fun d w => by have := tF_32 ha w; omega) (by omega)).mp k)), e_nm, nI_1]⟩
                rcases Nat.lt_or_ge i (abF n z G r c) with g | g
                · omega
                · have e : abF n z G r c = i := by omega
                  have := fa_first_yes (fun a => decide (tF n z G r 3 (G (kf n z G c) 1) a = some c)) (r / 4) (by show abF n z G r c < r / 4; omega)
                  rw [show fa_first (fun a => decide (tF n z G r 3 (G (kf n z G c) 1) a = some c)) (r / 4) = i from e] at this
                  exact absurd (of_decide_eq_true this) q3)
            N 0 l1 (by omega) (by omega) (Nat.zero_le _)
          obtain ⟨b, b1, b2⟩ := k1
          rw [show lp_X7_shorten_113 N c1 cf fi p (nI r) (nI c) (nI (full n)) (nI (G (kf n z G c) 1)) N 0 l1 = some b from b1, e_b1]
          by_cases q3 : abF n z G r c < r / 4
          · rw [if_pos q3] at b2
            obtain ⟨l, rfl⟩ := b2
            rw [e_s2l, e_u2, if_pos q3]
            obtain ⟨g, k1, k2⟩ := m_lbr (k := 3) (a := G (kf n z G c) 1) (b := abF n z G r c) hg7
            rw [show f_X7_layBrief g0 3 (nI (G (kf n z G c) 1)) (nI (abF n z G r c)) = _ from k1, e_b1]
            exact ⟨_, _, rfl, k2⟩
          · rw [if_neg q3] at b2
            obtain ⟨l, rfl⟩ := b2
            rw [e_s2r, e_u1, if_neg q3]
            obtain ⟨g, k1, k2⟩ := m_lsp ha hm h hN hk hg7
            rw [k1, e_b1]
            exact ⟨_, _, rfl, k2⟩
end
