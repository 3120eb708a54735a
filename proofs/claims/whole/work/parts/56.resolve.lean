/-! the class resolves slot by slot; what comes out is F and Rn -/
def dR (n : Nat) (z : Nat → Nat) (G : Nat → Nat → Nat) (L : Nat) (lab : Nat → Nat) (F : Nat → Option Nat) (Rn : Nat → Nat) (a j : Nat) (ct av dd : Int32) (ca fb ra : Nat → Int32) : Prop :=
  (∀ q, q < 4 * a + j → lf n z L q = true → ca q = oJ (F q) ∧ ra q = nI (Rn q)) ∧ (∀ b, b < 32 → 4 * a + j ≤ b → sp n z G L b = true → ca b = nI (cs n z G L lab b)) ∧
  (∀ t c, t < 8 → c < 32 → bt (fb t) c = fndU n z L F t c (if t < a then 4 else if t = a then j else 0)) ∧
  (∀ c, c < 32 → bt ct c = (decide (c < fb_ct (fx n z G L lab) 32) && decide (kth (fx n z G L lab) c < 4 * a + j))) ∧
  av = nI (fb_ct (fun q => lf n z L q && decide (F q ≠ none)) (4 * a + j)) ∧ dd = nI (fb_ct (fun q => lf n z L q && decide (F q = none)) (4 * a + j))
theorem dR_step {n : Nat} {z : Nat → Nat} {G : Nat → Nat → Nat} {L : Nat} {lab : Nat → Nat} {F : Nat → Option Nat} {Rn : Nat → Nat} {a j A D : Nat} (ha8 : a < 8) (hj4 : j < 4) (hlf : lf n z L (4 * a + j) = true) (hF : ∀ q c, F q = some c → c < 32) {ct ct2 : Int32} {ca fb ra : Nat → Int32} (hA : A = fb_ct (fun q => lf n z L q && decide (F q ≠ none)) (4 * a + j)) (hD : D = fb_ct (fun q => lf n z L q && decide (F q = none)) (4 * a + j)) (h : dR n z G L lab F Rn a j ct (nI A) (nI D) ca fb ra)
    (hct : ∀ c, c < 32 → bt ct2 c = (decide (c < fb_ct (fx n z G L lab) 32) && decide (kth (fx n z G L lab) c < 4 * a + (j + 1)))) :
    dR n z G L lab F Rn a (j + 1) ct2 (nI (A + al (F (4 * a + j)))) (nI (D + (1 - al (F (4 * a + j))))) (upd ca (4 * a + j) (oJ (F (4 * a + j)))) (fbs fb ((4 * a + j) / 4) (F (4 * a + j))) (upd ra (4 * a + j) (nI (Rn (4 * a + j)))) := by
  obtain ⟨h1, h2, h3, h4, h5, h6⟩ := h
  refine ⟨fun q hq hl => ?_, fun b hb hge hs => ?_, fun t c ht hc => ?_, hct, ?_, ?_⟩
  · by_cases e : q = 4 * a + j
    · subst e; rw [upd_s, upd_s]; exact ⟨rfl, rfl⟩
    · rw [upd_n _ _ e, upd_n _ _ e]; exact h1 q (by omega) hl
  · rw [upd_n _ _ (by omega)]; exact h2 b hb (by omega) hs
  · rw [show (4 * a + j) / 4 = a by omega]
    by_cases e : t = a
    · subst e
      have h3' := h3 t c ht hc
      simp only [Nat.lt_irrefl, if_false, if_true] at h3' ⊢
      rw [fndU_s, hlf, Bool.true_and]
      cases hFr : F (4 * t + j) with
      | none => simp only [fbs]; rw [h3']; simp
      | some d =>
        have hd := hF _ d hFr
        simp only [fbs]
        rw [upd_s, bt_set _ hd hc, h3']
        congr 1
        rw [decide_eq_decide]
        exact ⟨fun w => by rw [w], fun w => by cases w; rfl⟩
    · have : fbs fb a (F (4 * a + j)) t = fb t := by
        cases F (4 * a + j) with
        | none => rfl
        | some d => exact upd_n _ _ e
      rw [this, h3 t c ht hc]
      simp only [e, if_false]
  · rw [hA, show 4 * a + (j + 1) = (4 * a + j) + 1 from rfl, fb_ct_succ, hlf]
    congr 2
    unfold al
    cases F (4 * a + j) <;> simp
  · rw [hD, show 4 * a + (j + 1) = (4 * a + j) + 1 from rfl, fb_ct_succ, hlf]
    congr 2
    unfold al
    cases F (4 * a + j) <;> simp
theorem x_caseOf {ca : Nat → Int32} {r : Nat} (hr : r < 32) : f_X4_caseOf ca (nI r) = some (ca r) := by
  unfold f_X4_caseOf
  rw [if_neg (nI_pos (by omega)), if_neg (show ¬ (32 : Int32) ≤ nI r from nI_ge (b := 32) hr (by omega)), e_rd _ _ hr (by omega)]
theorem pt_lf {n : Nat} {z : Nat → Nat} {G : Nat → Nat → Nat} (ha : aP n z G) {L r q : Nat} (hr : lf n z L r = true) (h : pt n z L r = some q) : lf n z L q = true := by
  have ht := of_decide_eq_true (lf_th hr)
  unfold lf at hr
  simp only [Bool.and_eq_true] at hr
  unfold pt at h
  split at h
  · cases h
    unfold lf th
    rw [show (r - 1) / 4 = r / 4 by omega, hr.2, Bool.and_true, decide_eq_true_eq]
    exact ⟨ht.1, by omega⟩
  · split at h
    · cases h
    · rename_i a hl
      split at h
      · rename_i hz
        cases h
        have := lastN_lt hl
        unfold lf th
        rw [show 4 * a / 4 = a by omega, show 4 * a % 4 = 0 by omega, this.2.2, Bool.and_true, decide_eq_true_eq]
        exact ⟨this.2.1, by omega⟩
      · cases h
theorem x_res {n : Nat} {z : Nat → Nat} {G : Nat → Nat → Nat} (ha : aP n z G) {sz : Nat → Int32} {ci : Nat → Int64} (hc : cP n z G (nI n) sz ci) {L : Nat} {lab : Nat → Nat} (hlb : LB (sp n z G L) (mt G) lab) {F : Nat → Option Nat} {Rn : Nat → Nat} (hRS : RS n z G L lab F Rn) (hF : ∀ q c, F q = some c → c < 32) {c1 : Int32} {ca0 fs mb nb : Nat → Int32} (hdC : dC n z G L lab 32 c1 ca0 fs mb nb)
    {a j : Nat} {ct av dd : Int32} {ca fb ra : Nat → Int32} (han : a < n) (hja : j < z a) (hL : L.testBit a = true) (h : dR n z G L lab F Rn a j ct av dd ca fb ra) :
    ∃ ct2 av2 dd2 ca2 fb2 ra2, f_X4_resolve (nI L) ct av dd ca fb nb (nI n) ci sz ra (nI a) (nI j) (oJ (lastN n L a)) = some (ct2, av2, dd2, ca2, fb2, ra2) ∧ dR n z G L lab F Rn a (j + 1) ct2 av2 dd2 ca2 fb2 ra2 := by
  have h8 := ha.1
  have hz := (ha.2 a han).2.1
  have hth : th n z (4 * a + j) = true := by
    unfold th
    rw [show (4 * a + j) / 4 = a by omega, show (4 * a + j) % 4 = j by omega]
    simp [han, hja]
  have hlf : lf n z L (4 * a + j) = true := by
    unfold lf
    rw [hth, show (4 * a + j) / 4 = a by omega, hL]; rfl
  have r32 : 4 * a + j < 32 := by omega
  have hv := th_v ha hth
  have hb := vF_b hv
  have hnc := fb_ct_le (fx n z G L lab) 32
  obtain ⟨A, hA⟩ : ∃ A, A = fb_ct (fun q => lf n z L q && decide (F q ≠ none)) (4 * a + j) := ⟨_, rfl⟩
  obtain ⟨D, hD⟩ : ∃ D, D = fb_ct (fun q => lf n z L q && decide (F q = none)) (4 * a + j) := ⟨_, rfl⟩
  have eA : av = nI A := by rw [hA]; exact h.2.2.2.2.1
  have eD : dd = nI D := by rw [hD]; exact h.2.2.2.2.2
  subst eA eD
  have hstp := hRS _ r32
  have hnam : f_X4_namedWith nb (nI (G (4 * a + j) 1 + G (4 * a + j) 5)) = some (nb (G (4 * a + j) 1 + G (4 * a + j) 5)) := by
    unfold f_X4_namedWith
    rw [if_neg (nI_pos (by omega)), if_neg (show ¬ (6 : Int32) ≤ nI (G (4 * a + j) 1 + G (4 * a + j) 5) from nI_ge (b := 6) hb.2.1 (by omega)), e_rd _ _ hb.2.1 (by omega)]
  unfold f_X4_resolve
  rw [x_slot, e_b1, x_cite r32, e_b1, cP_c hc hth, c_number hv, e_b1, c_first hv, e_b1, hnam, e_b1, c_form hv, e_b1]
  by_cases k0 : G (4 * a + j) 0 = 0
  · have hsp : sp n z G L (4 * a + j) = true := by unfold sp; rw [hlf, k0]; rfl
    have hst : (F (4 * a + j), Rn (4 * a + j)) = (some (cs n z G L lab (4 * a + j)), 0) := by rw [hstp]; unfold stp; rw [if_pos hsp]
    have hFr : F (4 * a + j) = some (cs n z G L lab (4 * a + j)) := congrArg Prod.fst hst
    have hRr : Rn (4 * a + j) = 0 := congrArg Prod.snd hst
    have hcs := cs_lt ha.1 hlb hsp
    have hca := h.2.1 _ r32 (Nat.le_refl _) hsp
    have hct : ∀ c, c < 32 → bt (ct ||| ((1 : Int32) <<< (nI (cs n z G L lab (4 * a + j)) &&& 31))) c = (decide (c < fb_ct (fx n z G L lab) 32) && decide (kth (fx n z G L lab) c < 4 * a + (j + 1))) := by
      intro c hc32
      rw [bt_set _ (by omega) hc32, h.2.2.2.1 c hc32]
      by_cases e : c = cs n z G L lab (4 * a + j)
      · subst e
        have := cs_kth ha.1 hlb hsp
        have l := hlb.1 _ r32
        rw [this]
        simp [hcs]
        omega
      · by_cases hcn : c < fb_ct (fx n z G L lab) 32
        · have hne : kth (fx n z G L lab) c ≠ 4 * a + j := by
            intro w
            obtain ⟨k1, k2, k3⟩ := kth_ok hcn
            rw [w] at k2 k3
            have : lab (4 * a + j) = 4 * a + j := by unfold fx at k2; simp only [Bool.and_eq_true, decide_eq_true_eq] at k2; exact k2.2
            apply e
            unfold cs
            rw [this, k3]
          rw [show decide (kth (fx n z G L lab) c < 4 * a + j) = decide (kth (fx n z G L lab) c < 4 * a + (j + 1)) from by rw [decide_eq_decide]; omega]
          simp [e]
        · simp [hcn, e]
    refine ⟨_, _, _, _, _, _, ?_, dR_step (by omega) (by omega) hlf hF hA hD h hct⟩
    rw [if_pos (by rw [k0]; rfl), x_caseOf r32, e_b1, hca, show f_X4_settle (nI A) (nI D) ca fb ra (nI (4 * a + j)) (nI (cs n z G L lab (4 * a + j))) 0 = _ from x_settle (rs := 0) (x := some (cs n z G L lab (4 * a + j))) r32 (fun c w => by cases w; omega), e_b5, x_caseOf r32, upd_s, e_b1, e_nm, hFr, hRr]
    rfl
  · have hnsp : ¬ sp n z G L (4 * a + j) = true := by unfold sp; simp [k0]
    have hst : (F (4 * a + j), Rn (4 * a + j)) = tl n z G L (fx n z G L lab) F (4 * a + j) (G (4 * a + j) 0) (G (4 * a + j) 5) (G (4 * a + j) 6) := by rw [hstp]; unfold stp; rw [if_neg hnsp, if_pos hlf]
    have hct : ∀ c, c < 32 → bt ct c = (decide (c < fb_ct (fx n z G L lab) 32) && decide (kth (fx n z G L lab) c < 4 * a + (j + 1))) := by
      intro c hc32
      rw [h.2.2.2.1 c hc32]
      by_cases hcn : c < fb_ct (fx n z G L lab) 32
      · have hne : kth (fx n z G L lab) c ≠ 4 * a + j := by
          intro w
          obtain ⟨k1, k2, k3⟩ := kth_ok hcn
          rw [w] at k2
          exact hnsp (fx_sp k2)
        rw [show decide (kth (fx n z G L lab) c < 4 * a + j) = decide (kth (fx n z G L lab) c < 4 * a + (j + 1)) from by rw [decide_eq_decide]; omega]
      · simp [hcn]
    have hk : G (4 * a + j) 0 = 1 ∨ G (4 * a + j) 0 = 2 ∨ G (4 * a + j) 0 = 3 := by unfold vF at hv; omega
    have h1z : G (4 * a + j) 1 = 0 := by unfold vF at hv; omega
    rw [if_neg (nI_ne0 (by omega) (by omega))]
    refine ⟨_, _, _, _, _, _, ?_, dR_step (by omega) (by omega) hlf hF hA hD h hct⟩
    unfold tl at hst
    have hd4 : (4 * a + j) / 4 = a := by omega
    rcases hk with k1 | k1 | k1
    · rw [k1, if_neg (by decide), if_neg (by decide)] at hst
      have hFr : F (4 * a + j) = (uqS (QS G (fx n z G L lab) (4 * a + j) (G (4 * a + j) 5)) (fb_ct (fx n z G L lab) 32)).1 := congrArg Prod.fst hst
      have hRr : Rn (4 * a + j) = (uqS (QS G (fx n z G L lab) (4 * a + j) (G (4 * a + j) 5)) (fb_ct (fx n z G L lab) 32)).2 := congrArg Prod.snd hst
      rw [k1, if_pos (show nI 1 = (1 : Int32) from rfl), x_only r32 hnc (Q := QS G (fx n z G L lab) (4 * a + j) (G (4 * a + j) 5)) (fun c hc32 => by
        rw [b_and, hdC.2.2.2 _ hb.2.1 c hc32, h.2.2.2.1 c hc32, show G (4 * a + j) 1 + G (4 * a + j) 5 = G (4 * a + j) 5 by omega]
        unfold QS
        cases decide (c < fb_ct (fx n z G L lab) 32) <;> cases decide (G (kth (fx n z G L lab) c) 1 = G (4 * a + j) 5) <;> cases decide (kth (fx n z G L lab) c < 4 * a + j) <;> rfl), e_b5, hFr, hRr]
    · rw [k1, if_pos rfl] at hst
      rw [k1, if_neg (show ¬ nI 2 = (1 : Int32) from by decide), if_pos (show nI 2 = (2 : Int32) from rfl), x_pt ha hc (by omega) (by omega), e_b1]
      cases hp : pt n z L (4 * a + j) with
      | none =>
        rw [hp] at hst
        have hFr : F (4 * a + j) = none := congrArg Prod.fst hst
        have hRr : Rn (4 * a + j) = 3 := congrArg Prod.snd hst
        have hco : f_X4_caseOf ca (oJ none) = some (-1) := by
          unfold f_X4_caseOf
          rw [if_pos (by decide)]
        rw [hco, e_b1, if_neg (by decide), show f_X4_settle (nI A) (nI D) ca fb ra (nI (4 * a + j)) (-1) 3 = _ from x_settle (rs := 3) (x := none) r32 (fun c w => by cases w), e_b5, hFr, hRr]
        rfl
      | some q =>
        rw [hp] at hst
        simp only at hst
        have hq := pt_lt hp
        have hcq := (h.1 q hq (pt_lf ha hlf hp)).1
        rw [show oJ (some q) = nI q from rfl, x_caseOf (by omega), e_b1, if_pos (nI_pos' (by omega)), hcq, show f_X4_settle (nI A) (nI D) ca fb ra (nI (4 * a + j)) (oJ (F q)) 4 = _ from x_settle (rs := 4) (x := F q) r32 (fun c w => hF q c w), e_b5]
        cases hFq : F q with
        | none =>
          rw [hFq] at hst
          have hFr : F (4 * a + j) = none := congrArg Prod.fst hst
          have hRr : Rn (4 * a + j) = 4 := congrArg Prod.snd hst
          rw [hFr, hRr]; rfl
        | some c =>
          rw [hFq] at hst
          have hFr : F (4 * a + j) = some c := congrArg Prod.fst hst
          have hRr : Rn (4 * a + j) = 0 := congrArg Prod.snd hst
          rw [hFr, hRr]; rfl
    · rw [k1, if_neg (by decide), if_pos rfl] at hst
      have dead : F (4 * a + j) = none → Rn (4 * a + j) = 5 → pn_bd5 (f_X4_settle (nI A) (nI D) ca fb ra (nI (4 * a + j)) (-1) 5) (fun v_t_alive_u21 v_t_dead_u21 r_t_caseAt_u21 r_t_foundBy_u21 r_t_reasonAt_u21 => some (ct, v_t_alive_u21, v_t_dead_u21, r_t_caseAt_u21, r_t_foundBy_u21, r_t_reasonAt_u21)) = some (ct, nI (A + al (F (4 * a + j))), nI (D + (1 - al (F (4 * a + j)))), upd ca (4 * a + j) (oJ (F (4 * a + j))), fbs fb ((4 * a + j) / 4) (F (4 * a + j)), upd ra (4 * a + j) (nI (Rn (4 * a + j)))) := by
        intro hFr hRr
        rw [show f_X4_settle (nI A) (nI D) ca fb ra (nI (4 * a + j)) (-1) 5 = _ from x_settle (rs := 5) (x := none) r32 (fun c w => by cases w), e_b5, hFr, hRr]
        rfl
      rw [k1, if_neg (by decide), if_neg (by decide)]
      by_cases q1 : a ≤ G (4 * a + j) 6
      · have hah : ahd n L (G (4 * a + j) 6) (4 * a + j) = false := by unfold ahd; rw [hd4]; simp; omega
        rw [hah, if_neg (by decide)] at hst
        rw [if_pos (nI_le q1 (by omega))]
        exact dead (congrArg Prod.fst hst) (congrArg Prod.snd hst)
      · rw [if_neg (nI_ge (by omega) (by omega)), x_present (by omega), e_b1]
        cases hLb : L.testBit (G (4 * a + j) 6) with
        | false =>
          have hah : ahd n L (G (4 * a + j) 6) (4 * a + j) = false := by unfold ahd; rw [hLb]; simp
          rw [hah, if_neg (by decide)] at hst
          rw [if_pos (by decide)]
          exact dead (congrArg Prod.fst hst) (congrArg Prod.snd hst)
        | true =>
          have hah : ahd n L (G (4 * a + j) 6) (4 * a + j) = true := by unfold ahd; rw [hLb, hd4]; simp; omega
          rw [hah, if_pos rfl] at hst
          have hFr : F (4 * a + j) = (uqS (QA n z G L (fx n z G L lab) F (G (4 * a + j) 6) (G (4 * a + j) 5)) (fb_ct (fx n z G L lab) 32)).1 := congrArg Prod.fst hst
          have hRr : Rn (4 * a + j) = (uqS (QA n z G L (fx n z G L lab) F (G (4 * a + j) 6) (G (4 * a + j) 5)) (fb_ct (fx n z G L lab) 32)).2 := congrArg Prod.snd hst
          have hfn : f_X4_foundByNote fb (nI (G (4 * a + j) 6)) = some (fb (G (4 * a + j) 6)) := by
            unfold f_X4_foundByNote
            rw [if_neg (nI_pos (by omega)), if_neg (show ¬ (8 : Int32) ≤ nI (G (4 * a + j) 6) from nI_ge (b := 8) (by omega) (by omega)), e_rd _ _ (by omega) (by omega)]
          rw [if_neg (by decide), hfn, e_b1, x_only r32 hnc (Q := QA n z G L (fx n z G L lab) F (G (4 * a + j) 6) (G (4 * a + j) 5)) (fun c hc32 => by
            rw [b_and, hdC.2.2.2 _ hb.2.1 c hc32, h.2.2.1 _ c (by omega) hc32, show G (4 * a + j) 1 + G (4 * a + j) 5 = G (4 * a + j) 5 by omega, if_pos (by omega)]
            unfold QA
            cases decide (c < fb_ct (fx n z G L lab) 32) <;> cases decide (G (kth (fx n z G L lab) c) 1 = G (4 * a + j) 5) <;> cases fndU n z L F (G (4 * a + j) 6) c 4 <;> rfl), e_b5, hFr, hRr]
