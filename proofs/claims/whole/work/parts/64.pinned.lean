/-! the state of a pin, on both sides -/
section
variable {n : Nat} {z : Nat → Nat} {G : Nat → Nat → Nat} {p sz : Nat → Int32} {ci : Nat → Int64} {L N : Nat} {pr cs0 ct av dd fl c1 : Int32} {ca fs fb mb nb ra lk cf fi rn : Nat → Int32}
def pinA (f la v : Nat) : Bool := decide (f < v) && decide (v ≤ la)
noncomputable def acb (n : Nat) (z : Nat → Nat) (G : Nat → Nat → Nat) (c f la b : Nat) : Bool := fu n z G b && (!decide (FF n z G b = some c) && (pinA f la (G b 3) || pinA f la (G b 4)))
theorem x_acb (ha : aP n z G) (hc : cP n z G (nI n) sz ci) (hfl : ∀ b, b < 32 → bt fl b = fu n z G b) (h : dF n z G cs0 av dd ca fs fb mb nb ra) (hN : 2000 ≤ N) {c f la : Nat} (hk : c < KK n z G) (hf : f < 10000) (hla : la < 20000) :
    f_X4_anotherCaseBegins N fl cs0 mb ci (nI c) (nI f) (nI la) = some (b1 (decide (0 < fb_ct (acb n z G c f la) 32))) := by
  have main := lp_any (fun m i => lp_X4_anotherCaseBegins_3 fl cs0 mb ci (nI c) (nI f) (nI la) m (nI i)) 32 (acb n z G c f la) (.inl ()) (.inr ())
    (fun m => by
      simp only [lp_X4_anotherCaseBegins_3]
      rw [if_pos (show (32 : Int32) ≤ nI 32 from by decide)])
    (fun m i hi => by
      simp only [lp_X4_anotherCaseBegins_3]
      rw [if_neg (show ¬ (32 : Int32) ≤ nI i from nI_ge (b := 32) hi (by omega)), x_isFull hi, hfl i hi, e_b1]
      cases hu : fu n z G i with
      | false => rw [if_pos (by decide), e_nm, nI_1, if_neg (by simp [acb, hu])]
      | true =>
        have hth := fu_th hu
        have hv := th_v ha hth
        have hb := vF_b hv
        rw [if_neg (by decide), x_mem h hk hi, e_b1, hu, Bool.true_and]
        by_cases q : FF n z G i = some c
        · rw [if_neg (by simp [q, b1]), e_nm, nI_1, if_neg (by simp [acb, q])]
        · rw [if_pos (by simp [q, b1]), x_cite hi, e_b1, cP_c hc hth, c_report hv, e_b1, e_b1, c_other hv, e_b1]
          have ea : acb n z G c f la i = (pinA f la (G i 3) || pinA f la (G i 4)) := by simp [acb, hu, q]
          rw [ea]
          by_cases w1 : G i 3 ≤ f
          · rw [if_pos (nI_le w1 (by omega))]
            have p3 : pinA f la (G i 3) = false := by unfold pinA; simp; omega
            rw [p3, Bool.false_or]
            by_cases w2 : G i 4 ≤ f
            · rw [if_pos (nI_le w2 (by omega)), e_nm, nI_1, if_neg (by unfold pinA; simp; omega)]
            · rw [if_neg (nI_ge (by omega) (by omega))]
              by_cases w3 : la < G i 4
              · rw [if_pos (nI_lt w3 (by omega)), e_nm, nI_1, if_neg (by unfold pinA; simp; omega)]
              · rw [if_neg (nI_nlt (by omega) (by omega)), if_pos (by unfold pinA; simp; omega)]
          · rw [if_neg (nI_ge (by omega) (by omega))]
            by_cases w4 : G i 3 ≤ la
            · rw [if_pos (nI_le w4 (by omega)), if_pos (by unfold pinA; simp; omega)]
            · rw [if_neg (nI_ge (by omega) (by omega))]
              have p3 : pinA f la (G i 3) = false := by unfold pinA; simp; omega
              rw [p3, Bool.false_or]
              by_cases w2 : G i 4 ≤ f
              · rw [if_pos (nI_le w2 (by omega)), e_nm, nI_1, if_neg (by unfold pinA; simp; omega)]
              · rw [if_neg (nI_ge (by omega) (by omega))]
                by_cases w3 : la < G i 4
                · rw [if_pos (nI_lt w3 (by omega)), e_nm, nI_1, if_neg (by unfold pinA; simp; omega)]
                · rw [if_neg (nI_nlt (by omega) (by omega)), if_pos (by unfold pinA; simp; omega)])
    N (by omega)
  unfold f_X4_anotherCaseBegins
  rw [show lp_X4_anotherCaseBegins_3 fl cs0 mb ci (nI c) (nI f) (nI la) N 0 = _ from main, e_b1]
  by_cases q : 0 < fb_ct (acb n z G c f la) 32
  · rw [if_pos q, e_s2l]; simp [q, b1]; rfl
  · rw [if_neg q, e_s2r]; simp [q, b1]; rfl
theorem acb_eq (ha : aP n z G) {c f pn : Nat} (hpn : pn < 100) : decide (0 < fb_ct (acb n z G c f (f - f % 100 + pn)) 32) = decide (0 < fb_ct (pin2 n z G (full n) (FF n z G) c f pn) 64) := by
  have e1 : ∀ v, pinA f (f - f % 100 + pn) v = pin1 f pn v := by
    intro v
    unfold pinA pin1
    by_cases a1 : f < v
    · by_cases a2 : v ≤ f - f % 100 + pn
      · rw [decide_eq_true a1, decide_eq_true a2, decide_eq_true (show v / 100 = f / 100 by omega), decide_eq_true (show v % 100 ≤ pn by omega)]; rfl
      · rw [decide_eq_true a1, decide_eq_false a2]
        by_cases a3 : v / 100 = f / 100
        · rw [decide_eq_true a3, decide_eq_false (show ¬ v % 100 ≤ pn by omega)]; rfl
        · rw [decide_eq_false a3]; rfl
    · rw [decide_eq_false a1, Bool.false_and, Bool.false_and, Bool.and_false]
  rw [decide_eq_decide, fb_ct_pos, fb_ct_pos]
  constructor
  · rintro ⟨b, hb, w⟩
    unfold acb at w
    rw [e1, e1] at w
    simp only [Bool.and_eq_true, Bool.or_eq_true, Bool.not_eq_true', decide_eq_false_iff_not] at w
    obtain ⟨w1, w2, w3 | w3⟩ := w
    · refine ⟨2 * b, by omega, ?_⟩
      unfold pin2
      rw [show 2 * b / 2 = b by omega, show 3 + 2 * b % 2 = 3 by omega, sp_full ha, w1, w3, decide_eq_true w2]; rfl
    · refine ⟨2 * b + 1, by omega, ?_⟩
      unfold pin2
      rw [show (2 * b + 1) / 2 = b by omega, show 3 + (2 * b + 1) % 2 = 4 by omega, sp_full ha, w1, w3, decide_eq_true w2]; rfl
  · rintro ⟨q, hq, w⟩
    unfold pin2 at w
    simp only [Bool.and_eq_true, decide_eq_true_eq] at w
    obtain ⟨w1, w2, w3⟩ := w
    rw [sp_full ha] at w1
    refine ⟨q / 2, by omega, ?_⟩
    unfold acb
    rw [e1, e1, w1, decide_eq_false w2]
    rcases (show q % 2 = 0 ∨ q % 2 = 1 by omega) with m | m
    · rw [m] at w3
      rw [show (3 : Nat) = 3 + 0 from rfl, w3]; rfl
    · rw [m] at w3
      rw [show (4 : Nat) = 3 + 1 from rfl, w3]; simp
noncomputable def pinV (n : Nat) (z : Nat → Nat) (G : Nat → Nat → Nat) (r : Nat) : Nat := match FF n z G r with
  | none => 4
  | some c => if G r 7 = 0 then 1 else if G r 7 < G (kf n z G c) 3 % 100 then 2 else if decide (0 < fb_ct (pin2 n z G (full n) (FF n z G) c (G (kf n z G c) 3) (G r 7)) 64) = true then 3 else 0
theorem x_pinSt (ha : aP n z G) (hc : cP n z G (nI n) sz ci) (hfl : ∀ b, b < 32 → bt fl b = fu n z G b) (h : dF n z G cs0 av dd ca fs fb mb nb ra) (hN : 2000 ≤ N) {r : Nat} (hr : th n z r = true) :
    f_X4_pinState N fl cs0 ca fs mb ci (nI r) = some (nI (pinV n z G r)) := by
  have r32 := th_lt hr ha.1
  have hv := th_v ha hr
  have hb := vF_b hv
  unfold f_X4_pinState pinV
  rw [x_caseOf r32, e_b1, x_cite r32, e_b1, cP_c hc hr, c_pin hv, e_b1, (h.2.2.2.2.1 r r32 hr).1]
  cases hF : FF n z G r with
  | none => rw [if_neg (by decide)]; rfl
  | some c =>
    have hk := FF_K ha r r32 c hF
    have hK := KK_le (n := n) (z := z) (G := G)
    have hv2 := th_v ha (kf_th ha hk)
    have hb2 := vF_b hv2
    simp only
    rw [oJ_s, if_pos (nI_pos' (by omega))]
    by_cases q : G r 7 = 0
    · rw [if_neg (fun w => w (by rw [q]; rfl)), if_pos q]; rfl
    · rw [if_pos (nI_ne0 (by omega) (by omega)), if_neg q, x_fc ha hc h hk, e_b1, c_report hv2, e_b1, r100 (by omega)]
      by_cases q2 : G r 7 < G (kf n z G c) 3 % 100
      · rw [if_neg (nI_ge q2 (by omega)), if_pos q2]; rfl
      · rw [if_pos (nI_le (by omega) (by omega)), if_neg q2, pk_sub (by omega), nI_add, x_acb ha hc hfl h hN hk (by omega) (by omega), e_b1, acb_eq ha (by omega)]
        cases decide (0 < fb_ct (pin2 n z G (full n) (FF n z G) c (G (kf n z G c) 3) (G r 7)) 64) <;> rfl
theorem m_pinSt (ha : aP n z G) (hm : mP n z G p) (h : mF n z G c1 cf fi rn) (hN : 2000 ≤ N) {r : Nat} (hr : th n z r = true) :
    f_X7_pinned N cf fi p (nI r) = some (nI (pinV n z G r)) := by
  have r32 := th_lt hr ha.1
  have hv := th_v ha hr
  have hb := vF_b hv
  unfold f_X7_pinned pinV
  rw [show f_X7_ref p (nI r) 7 = _ from m_refT ha hm hr (i := 7) (by omega), e_b1, e_rd _ _ r32 (by omega), (h.2.2 r r32).1]
  cases hF : FF n z G r with
  | none => rw [if_neg (fun w => w rfl)]; rfl
  | some c =>
    have hk := FF_K ha r r32 c hF
    have hK := KK_le (n := n) (z := z) (G := G)
    have hv2 := th_v ha (kf_th ha hk)
    have hb2 := vF_b hv2
    simp only
    rw [oI_s, if_pos (n_m9 (by omega))]
    by_cases q : G r 7 = 0
    · rw [if_neg (fun w => w (by rw [q]; rfl)), if_pos q]; rfl
    · rw [if_pos (nI_ne0 (by omega) (by omega)), if_neg q, e_rd _ _ r32 (by omega), (h.2.2 r r32).1, hF, oI_s, show (3 : Int32) = nI 3 from rfl, m_cf ha hm h hk (by omega), r100 (by omega)]
      by_cases q2 : G r 7 < G (kf n z G c) 3 % 100
      · rw [if_neg (nI_ge q2 (by omega)), if_pos q2]; rfl
      · rw [if_pos (nI_le (by omega) (by omega)), if_neg q2, e_rd _ _ r32 (by omega), (h.2.2 r r32).1, hF, oI_s]
        unfold f_X7_isPast
        rw [show (3 : Int32) = nI 3 from rfl, m_cf ha hm h hk (by omega), m_past ha hm (FF_32 ha) (fun q hq => (h.2.2 q hq).1) hN (by omega) (by omega) (by omega), e_b1, e_u1, b1_bz, e_b1]
        cases decide (0 < fb_ct (pin2 n z G (full n) (FF n z G) c (G (kf n z G c) 3) (G r 7)) 64) <;> rfl
end
