/-! the shorter form of a reference: the words of it, and when a full one stays -/
section
variable {n : Nat} {z : Nat → Nat} {G : Nat → Nat → Nat} {p sz : Nat → Int32} {ci : Nat → Int64} {L N : Nat} {ver lv sv pr cs0 ct av dd fl c1 c0 l0 : Int32} {ca fs fb mb nb ra lk cf fi rn cf0 fi0 lb0 rn0 : Nat → Int32}
noncomputable def tF (n : Nat) (z : Nat → Nat) (G : Nat → Nat → Nat) (r kd lt fg : Nat) : Option Nat := (tl n z G (full n) (fk n z G) (FF n z G) r kd lt fg).1
theorem tF_32 (ha : aP n z G) {r kd lt fg c : Nat} (h : tF n z G r kd lt fg = some c) : c < 32 := tl_lt (FF_32 ha) h
theorem tF_2 (r : Nat) : tF n z G r 2 0 0 = match pt n z (full n) r with
    | none => none
    | some q => FF n z G q := by
  unfold tF tl
  rw [if_pos rfl]
  cases pt n z (full n) r with
  | none => rfl
  | some q =>
    simp only
    cases FF n z G q <;> rfl
theorem tF_1 (r lt fg : Nat) : tF n z G r 1 lt fg = (uqS (QS G (fk n z G) r lt) (KK n z G)).1 := by
  unfold tF tl
  rw [if_neg (by decide), if_neg (by decide)]
  rfl
theorem tF_3 (ha : aP n z G) {r lt a : Nat} (h : th n z r = true) (hA : a < r / 4) : tF n z G r 3 lt a = (uqS (QA n z G (full n) (fk n z G) (FF n z G) a lt) (KK n z G)).1 := by
  have h8 := ha.1
  have w := of_decide_eq_true h
  have e : ahd n (full n) a r = true := by
    unfold ahd
    rw [full_bit n (by omega) a (by omega)]
    simp only [Bool.and_eq_true, decide_eq_true_eq]
    omega
  unfold tF tl
  rw [if_neg (by decide), if_pos rfl, if_pos e]
  rfl
def hasA (G : Nat → Nat → Nat) (r s : Nat) : Bool := hr G s (G r 3) && (decide (G r 4 = 0) || hr G s (G r 4))
def covB (n : Nat) (z : Nat → Nat) (G : Nat → Nat → Nat) (r b : Nat) : Bool := fu n z G b && hasA G r b
def stB (n : Nat) (z : Nat → Nat) (G : Nat → Nat → Nat) (r : Nat) : Bool := decide (G r 0 = 0) && !decide (0 < fb_ct (covB n z G r) r)
noncomputable def abF (n : Nat) (z : Nat → Nat) (G : Nat → Nat → Nat) (r c : Nat) : Nat := fa_first (fun a => decide (tF n z G r 3 (G (kf n z G c) 1) a = some c)) (r / 4)
noncomputable def shF (n : Nat) (z : Nat → Nat) (G : Nat → Nat → Nat) (r c : Nat) : Nat → Nat :=
  if tF n z G r 2 0 0 = some c then mk8 2 0 0 0 0 0 0 0
  else if tF n z G r 1 (G (kf n z G c) 1) 0 = some c then mk8 1 0 0 0 0 (G (kf n z G c) 1) 0 0
  else if abF n z G r c < r / 4 then mk8 3 0 0 0 0 (G (kf n z G c) 1) (abF n z G r c) 0 else G (kf n z G c)
noncomputable def shB (n : Nat) (z : Nat → Nat) (G : Nat → Nat → Nat) (r : Nat) : Nat → Nat := match FF n z G r with
  | none => G r
  | some c => if stB n z G r = true then G r else wp (shF n z G r c) (G r 7)
theorem shF_v (ha : aP n z G) {r c : Nat} (h : th n z r = true) (hk : c < KK n z G) : vF (shF n z G r c) := by
  have e := fu_rp ha (kf_ok ha hk).2
  have h8 := ha.1
  have r32 := th_lt h h8
  have l := fa_first_le (fun a => decide (tF n z G r 3 (G (kf n z G c) 1) a = some c)) (r / 4)
  unfold shF
  by_cases q1 : tF n z G r 2 0 0 = some c
  · rw [if_pos q1]; exact v_same
  · rw [if_neg q1]
    by_cases q2 : tF n z G r 1 (G (kf n z G c) 1) 0 = some c
    · rw [if_pos q2]; exact v_short e.2.1
    · rw [if_neg q2]
      by_cases q3 : abF n z G r c < r / 4
      · rw [if_pos q3]; exact v_above e.2.1 (by omega)
      · rw [if_neg q3]; exact th_v ha (kf_th ha hk)
theorem shB_v (ha : aP n z G) {r : Nat} (h : th n z r = true) : vF (shB n z G r) := by
  have hv := th_v ha h
  unfold shB
  cases hF : FF n z G r with
  | none => exact hv
  | some c =>
    simp only
    by_cases q : stB n z G r = true
    · rw [if_pos q]; exact hv
    · rw [if_neg q]; exact wp_v (shF_v ha h (FF_K ha r (th_lt h ha.1) c hF)) (vF_b hv).2.2.2.2.2.1
theorem uni_iff {Q : Nat → Bool} {m c : Nat} (hm : m ≤ 32) (hc : c < m) {x : Int32} (hx : ∀ d, d < 32 → bt x d = (decide (d < m) && Q d)) : x = (1 : Int32) <<< (nI c &&& 31) ↔ (uqS Q m).1 = some c := by
  rcases uq_char Q m (by omega) with ⟨h1, h2⟩ | ⟨d, hd, h1, hQ, h2⟩ | ⟨h1, h2⟩
  · have hu : uqS Q m = (none, 1) := by unfold uqS; rw [if_pos h2]
    rw [hu]
    refine ⟨fun w => ?_, fun w => by simp at w⟩
    have e := hx c (by omega)
    rw [w, bt_one (by omega) (by omega), fb_ct_zero.mp h1 c hc] at e
    simp at e
  · have hu : uqS Q m = (some d, 0) := by unfold uqS; rw [h2, if_neg (n_m9 (by omega)), if_neg (n_m10 (by omega)), nI_clamp (by omega)]
    rw [hu]
    have hone := one_bit hm hd h1 hQ
    constructor
    · intro w
      have e := hx c (by omega)
      rw [w, bt_one (by omega) (by omega), hone c hc, decide_eq_true hc] at e
      simp at e
      rw [e]
    · intro w
      have e : d = c := Option.some.inj w
      subst e
      refine bt_inj (fun k hk => ?_)
      rw [hx k hk, bt_one (by omega) hk]
      by_cases e : k < m
      · rw [hone k e]; simp [e]
      · have : k ≠ d := by omega
        simp [e, this]
  · have hu : uqS Q m = (none, 2) := by unfold uqS; rw [h2, if_neg (by decide), if_pos rfl]
    rw [hu]
    refine ⟨fun w => ?_, fun w => by simp at w⟩
    have e2 : fb_ct Q m = fb_ct (fun k => decide (k = c) && true) m := fb_ct_cong (fun k hk => by
      have e := hx k (by omega)
      rw [w, bt_one (by omega) (by omega), decide_eq_true hk, Bool.true_and] at e
      rw [← e, Bool.and_true])
    rw [ct_single c true hc, if_pos rfl] at e2
    omega
theorem lp_and {β : Type} (L : Nat → Nat → Int32 → Option β) (e : Nat) (Q : Nat → Bool) (g : Int32 → β) (hx : ∀ m s, L (m + 1) e s = some (g s)) (hs : ∀ m i b, i < e → L (m + 1) i (b1 b) = L m (i + 1) (b1 (b && !Q i))) (N : Nat) (hN : e < N) (k : Bool) : L N 0 (b1 k) = some (g (b1 (k && !decide (0 < fb_ct Q e)))) := by
  have main := lp_up L e (fun i s => s = b1 (k && !decide (0 < fb_ct Q i))) (fun b => b = g (b1 (k && !decide (0 < fb_ct Q e))))
    (fun m s h => ⟨g s, hx m s, by rw [h]⟩)
    (fun m i s hi h => Or.inr ⟨b1 (k && !decide (0 < fb_ct Q (i + 1))), rfl, by rw [h, hs m i _ hi, ct_s]; cases k <;> cases decide (0 < fb_ct Q i) <;> cases Q i <;> rfl⟩)
    N 0 (b1 k) (by omega) (by omega) (by cases k <;> rfl)
  obtain ⟨b, h1, h2⟩ := main
  rw [h1, h2]
theorem x_hasAll (ha : aP n z G) {r s : Nat} (hr1 : fu n z G r = true) (hs1 : fu n z G s = true) : f_X0_hasAllOf (lN (en (G s))) (lN (en (G r))) = some (b1 (hasA G r s)) := by
  have v1 := th_v ha (fu_th hr1)
  have v2 := th_v ha (fu_th hs1)
  have k1 := vF_b v1
  have k2 := vF_b v2
  have n3 := rp_lt (fu_rp ha hr1).1
  have hj : hr G s (G r 3) = true → j_X0_hasAllOf_32 (lN (en (G s))) (nI (G r 4)) = some (b1 (hasA G r s)) := by
    intro w
    unfold j_X0_hasAllOf_32 hasA
    rw [w, Bool.true_and]
    by_cases q : G r 4 = 0
    · rw [if_pos (by rw [q]; rfl)]; simp [q, b1]
    · rw [if_neg (nI_ne0 (by omega) (by omega)), c_report v2, e_b1]
      unfold hr
      by_cases q1 : G s 3 = G r 4
      · rw [if_pos (by rw [q1])]; simp [q, q1, b1]
      · rw [if_neg (fun w => q1 ((nI_eq (by omega) (by omega)).mp w).symm), c_other v2, e_b1]
        by_cases q2 : G s 4 = G r 4
        · rw [if_neg (fun w => w (by rw [q2]))]; simp [q, q2, b1]
        · rw [if_pos (fun w => q2 ((nI_eq (by omega) (by omega)).mp w).symm)]; simp [q, q1, q2, b1]
  unfold f_X0_hasAllOf
  rw [c_report v1, e_b1, c_other v1, e_b1, c_report v2, e_b1]
  have n0 : G r 3 ≠ 0 := by omega
  by_cases q1 : G s 3 = G r 3
  · rw [if_pos (by rw [q1]), hj (by unfold hr; simp [q1, n0])]
  · rw [if_neg (fun w => q1 ((nI_eq (by omega) (by omega)).mp w).symm), c_other v2, e_b1]
    by_cases q2 : G s 4 = G r 3
    · rw [if_pos (by rw [q2]), hj (by unfold hr; simp [q2, n0])]
    · rw [if_neg (fun w => q2 ((nI_eq (by omega) (by omega)).mp w).symm)]
      unfold hasA hr; simp [q1, q2, b1]
theorem m_hasAll (ha : aP n z G) (hm : mP n z G p) {r s : Nat} (hr1 : fu n z G r = true) (hs1 : fu n z G s = true) : f_X7_hasAll p (nI r) (nI s) = some (b1 (hasA G r s)) := by
  have k1 := vF_b (th_v ha (fu_th hr1))
  have t1 := fu_th hr1
  have t2 := fu_th hs1
  unfold f_X7_hasAll hasA
  rw [show f_X7_ref p (nI r) 3 = _ from m_refT ha hm t1 (i := 3) (by omega), e_b1, m_hr ha hm t2 (by omega), e_b1]
  cases hr G s (G r 3) with
  | false => rw [if_pos (by decide)]; rfl
  | true =>
    rw [if_neg (by decide), show f_X7_ref p (nI r) 4 = _ from m_refT ha hm t1 (i := 4) (by omega), e_b1, Bool.true_and]
    by_cases q : G r 4 = 0
    · rw [if_pos (by rw [q]; rfl)]; simp [q, b1]
    · rw [if_neg (nI_ne0 (by omega) (by omega)), e_b1, m_hr ha hm t2 (by omega), e_b1, decide_eq_false q, Bool.false_or]
      cases hr G s (G r 4) with
      | false => rw [if_pos (by decide)]; rfl
      | true => rw [if_neg (by decide)]; rfl
theorem x_cov (ha : aP n z G) (hc : cP n z G (nI n) sz ci) (hfl : ∀ b, b < 32 → bt fl b = fu n z G b) (hN : 2000 ≤ N) {r : Nat} (hr1 : fu n z G r = true) : f_X4_isCoveredBefore N fl ci (nI r) = some (b1 (decide (0 < fb_ct (covB n z G r) r))) := by
  have r32 := th_lt (fu_th hr1) ha.1
  have main := lp_any (fun m i => lp_X4_isCoveredBefore_2 fl ci (nI r) m (nI i)) r (covB n z G r) (.inl ()) (.inr ())
    (fun m => by
      simp only [lp_X4_isCoveredBefore_2]
      rw [if_pos (nI_le (Nat.le_refl _) (by omega))])
    (fun m i hi => by
      simp only [lp_X4_isCoveredBefore_2]
      rw [if_neg (nI_ge hi (by omega)), x_isFull (by omega), hfl i (by omega), e_b1]
      unfold covB
      cases hu : fu n z G i with
      | false => rw [if_pos (by decide), e_nm, nI_1, if_neg (by simp)]
      | true =>
        rw [if_neg (by decide), x_cite (by omega), e_b1, x_cite r32, e_b1, cP_c hc (fu_th hu), cP_c hc (fu_th hr1), x_hasAll ha hr1 hu, e_b1, Bool.true_and]
        cases hasA G r i with
        | false => rw [if_pos (by decide), e_nm, nI_1, if_neg (by decide)]
        | true => rw [if_neg (by decide), if_pos rfl])
    N (by omega)
  unfold f_X4_isCoveredBefore
  rw [show lp_X4_isCoveredBefore_2 fl ci (nI r) N 0 = _ from main, e_b1]
  by_cases q : 0 < fb_ct (covB n z G r) r
  · rw [if_pos q, e_s2l, decide_eq_true q]; rfl
  · rw [if_neg q, e_s2r, decide_eq_false q]; rfl
theorem m_stays (ha : aP n z G) (hm : mP n z G p) (hN : 2000 ≤ N) {r : Nat} (h : th n z r = true) : f_X7_stays N p (nI r) = some (b1 (stB n z G r)) := by
  have r32 := th_lt h ha.1
  have h0 := vF_b (th_v ha h)
  have main : ∀ k, (k = true → fu n z G r = true) → lp_X7_stays_17 p (nI r) N (b1 k) 0 = some (b1 (k && !decide (0 < fb_ct (covB n z G r) r))) := by
    intro k hk
    have e := lp_up (fun m i (s : Int32) => lp_X7_stays_17 p (nI r) m s (nI i)) r (fun i s => s = b1 (k && !decide (0 < fb_ct (covB n z G r) i))) (fun b => b = b1 (k && !decide (0 < fb_ct (covB n z G r) r)))
      (fun m s w => ⟨s, by
        simp only [lp_X7_stays_17]
        rw [if_pos (nI_le (Nat.le_refl _) (by omega))], w⟩)
      (fun m i s hi w => by
        refine Or.inr ⟨b1 (k && !decide (0 < fb_ct (covB n z G r) (i + 1))), rfl, ?_⟩
        simp only [lp_X7_stays_17]
        rw [if_neg (nI_ge hi (by omega)), w, ct_s]
        cases hk2 : (k && !decide (0 < fb_ct (covB n z G r) i)) with
        | false =>
          rw [if_pos (by decide), e_nm, nI_1]
          have : (k && !(decide (0 < fb_ct (covB n z G r) i) || covB n z G r i)) = false := by
            cases k with
            | false => rfl
            | true =>
              rw [Bool.true_and] at hk2 ⊢
              cases hd : decide (0 < fb_ct (covB n z G r) i) with
              | false => rw [hd] at hk2; cases hk2
              | true => rfl
          rw [this]; rfl
        | true =>
          have hkt : k = true := by cases k with
            | false => cases hk2
            | true => rfl
          have hd : decide (0 < fb_ct (covB n z G r) i) = false := by
            rw [hkt, Bool.true_and] at hk2
            cases hd : decide (0 < fb_ct (covB n z G r) i) with
            | false => rfl
            | true => rw [hd] at hk2; cases hk2
          have hrf := hk hkt
          rw [if_neg (by decide), m_all ha hm, e_b1, m_sp ha hm (full_31 n) (by omega), e_b1, sp_full ha, hd, hkt, Bool.false_or, Bool.true_and]
          unfold covB
          cases hu : fu n z G i with
          | false => rw [if_pos (by decide), e_nm, nI_1]; rfl
          | true =>
            rw [if_neg (by decide), m_hasAll ha hm hrf hu, e_b1, Bool.true_and]
            cases hasA G r i with
            | false => rw [if_neg (by decide), e_nm, nI_1]; rfl
            | true => rw [if_pos (by decide), e_nm, nI_1]; rfl)
      N 0 (b1 k) (by omega) (by omega) (by cases k <;> rfl)
    obtain ⟨b, h1, h2⟩ := e
    rw [show lp_X7_stays_17 p (nI r) N (b1 k) 0 = some b from h1, h2]
  unfold f_X7_stays stB
  rw [show f_X7_ref p (nI r) 0 = _ from m_refT ha hm h (i := 0) (by omega), e_b1]
  by_cases q : G r 0 = 0
  · rw [if_neg (fun w => w (by rw [q]; rfl)), show lp_X7_stays_17 p (nI r) N 1 0 = _ from main true (fun _ => by unfold fu; rw [h, q]; rfl), e_b1, e_u1, b1_bz, decide_eq_true q]
  · rw [if_pos (nI_ne0 (by omega) (by omega)), show lp_X7_stays_17 p (nI r) N 0 0 = _ from main false (fun w => by cases w), e_b1, e_u1, b1_bz, decide_eq_false q]
end
