/-! the class: which references are full, which have a report in common -/
def fu (n : Nat) (z : Nat → Nat) (G : Nat → Nat → Nat) (r : Nat) : Bool := th n z r && decide (G r 0 = 0)
theorem sp_fu {n : Nat} {z : Nat → Nat} {G : Nat → Nat → Nat} {L r : Nat} : sp n z G L r = (fu n z G r && L.testBit (r / 4)) := by
  unfold sp lf fu
  cases th n z r <;> cases L.testBit (r / 4) <;> cases decide (G r 0 = 0) <;> rfl
theorem fu_th {n : Nat} {z : Nat → Nat} {G : Nat → Nat → Nat} {r : Nat} (h : fu n z G r = true) : th n z r = true := by
  unfold fu at h; simp only [Bool.and_eq_true] at h; exact h.1
theorem cP_c {n : Nat} {z : Nat → Nat} {G : Nat → Nat → Nat} {nt : Int32} {sz : Nat → Int32} {ci : Nat → Int64} (hc : cP n z G nt sz ci) {r : Nat} (h : th n z r = true) : ci r = lN (en (G r)) := by
  have h := of_decide_eq_true h
  have := (hc.2 (r / 4) h.1).2 (r % 4) h.2
  rw [show 4 * (r / 4) + r % 4 = r by omega] at this
  exact this
theorem x_cite {ci : Nat → Int64} {r : Nat} (hr : r < 32) : f_X1_cite ci (nI r) = some (ci r) := by
  unfold f_X1_cite
  rw [if_neg (nI_pos (by omega)), show (32 : Int32) = nI 32 from rfl, if_neg (nI_ge hr (by omega)), e_rd _ _ hr (by omega)]
theorem x_common {n : Nat} {z : Nat → Nat} {G : Nat → Nat → Nat} (ha : aP n z G) {r s : Nat} (h : fu n z G r = true) (h2 : fu n z G s = true) : f_X0_haveCommonReport (lN (en (G r))) (lN (en (G s))) = some (b1 (mt G r s)) := by
  have v1 := th_v ha (fu_th h)
  have v2 := th_v ha (fu_th h2)
  have l3 := vF_lt v1 (i := 3) (by omega)
  have l4 := vF_lt v1 (i := 4) (by omega)
  have m3 := vF_lt v2 (i := 3) (by omega)
  have m4 := vF_lt v2 (i := 4) (by omega)
  have r0 : G r 0 = 0 := by unfold fu at h; simp only [Bool.and_eq_true] at h; exact of_decide_eq_true h.2
  have r3 : G r 3 ≠ 0 := by
    have := v1
    unfold vF rpOK at this
    omega
  unfold f_X0_haveCommonReport mt hr
  rw [c_other v1, e_b1, c_report v1, e_b1, c_report v2, e_b1]
  by_cases q1 : G r 3 = G s 3
  · rw [if_pos (by rw [q1])]; simp [b1, ← q1, r3]
  · rw [if_neg (fun w => q1 ((nI_eq (by omega) (by omega)).mp w)), e_b1, c_other v2, e_b1]
    by_cases q2 : G r 3 = G s 4
    · rw [if_neg (fun w => w (by rw [q2]))]; simp [b1, ← q2, r3]
    · rw [if_pos (fun w => q2 ((nI_eq (by omega) (by omega)).mp w))]
      have n1 : ¬ G s 3 = G r 3 := fun w => q1 w.symm
      have n2 : ¬ G s 4 = G r 3 := fun w => q2 w.symm
      by_cases q3 : G r 4 = 0
      · rw [if_pos (by rw [q3]; rfl)]; simp [b1, n1, n2, q3]
      · rw [if_neg (nI_ne0 (by omega) (by omega)), e_b1]
        by_cases q4 : G r 4 = G s 3
        · rw [if_pos (by rw [q4])]; simp [b1, n1, n2, ← q4, q3]
        · rw [if_neg (fun w => q4 ((nI_eq (by omega) (by omega)).mp w)), e_b1]
          have n3 : ¬ G s 3 = G r 4 := fun w => q4 w.symm
          by_cases q5 : G r 4 = G s 4
          · rw [if_neg (fun w => w (by rw [q5]))]; simp [b1, ← q5, q3]
          · rw [if_pos (fun w => q5 ((nI_eq (by omega) (by omega)).mp w))]
            have n4 : ¬ G s 4 = G r 4 := fun w => q5 w.symm
            simp [b1, n1, n2, n3, n4]
theorem x_fulls {n : Nat} {z : Nat → Nat} {G : Nat → Nat → Nat} (ha : aP n z G) {sz : Nat → Int32} {ci : Nat → Int64} (hc : cP n z G (nI n) sz ci) {N : Nat} (hN : 2000 ≤ N) : ∃ f, f_X1_fullSlots N (nI n) ci sz = some f ∧ ∀ b, b < 32 → bt f b = fu n z G b := by
  have h8 := ha.1
  have inner : ∀ a x1, a < n → (∀ b, b < 32 → bt x1 b = (fu n z G b && decide (b < 4 * a))) → ∃ f, lp_X1_fullSlots_14 (nI n) ci sz (nI a) N x1 0 = some f ∧ ∀ b, b < 32 → bt f b = (fu n z G b && decide (b < 4 * (a + 1))) := by
    intro a x1 han h1
    have hz := (ha.2 a han).2.1
    exact lp_up (fun n' i (s : Int32) => lp_X1_fullSlots_14 (nI n) ci sz (nI a) n' s (nI i)) (z a) (fun i s => ∀ b, b < 32 → bt s b = (fu n z G b && decide (b < 4 * a + i))) (fun f => ∀ b, b < 32 → bt f b = (fu n z G b && decide (b < 4 * (a + 1))))
      (fun m s h => ⟨s, by simp only [lp_X1_fullSlots_14]; rw [x_size han h8, e_b1, (hc.2 a han).1, if_pos (nI_le (Nat.le_refl _) (by omega))], fun b hb => by
        rw [h b hb]
        cases hf : fu n z G b with
        | false => rfl
        | true =>
          have ht := of_decide_eq_true (fu_th hf)
          have : decide (b < 4 * a + z a) = decide (b < 4 * (a + 1)) := by
            rw [decide_eq_decide]
            constructor
            · intro; omega
            · intro w
              by_cases q : b / 4 = a
              · have := ht.2; rw [q] at this; omega
              · omega
          rw [this]⟩)
      (fun m i s hi h => by
        right
        simp only [lp_X1_fullSlots_14]
        have ht : th n z (4 * a + i) = true := by
          unfold th
          rw [show (4 * a + i) / 4 = a by omega, show (4 * a + i) % 4 = i by omega]
          simp [han, hi]
        have hv := th_v ha ht
        have h0 := vF_lt hv (i := 0) (by omega)
        rw [x_size han h8, e_b1, (hc.2 a han).1, if_neg (nI_ge hi (by omega)), x_slot, e_b1, x_cite (by omega), e_b1, cP_c hc ht, c_form hv, e_b1]
        by_cases q : G (4 * a + i) 0 = 0
        · have hf : fu n z G (4 * a + i) = true := by unfold fu; rw [ht, q]; rfl
          refine ⟨s ||| ((1 : Int32) <<< (nI (4 * a + i) &&& 31)), fun b hb => ?_, ?_⟩
          · rw [bt_set _ (by omega) hb, h b hb]
            by_cases e : b = 4 * a + i
            · subst e; rw [hf]; simp
            · cases fu n z G b
              · simp [e]
              · simp [e]; omega
          · rw [if_neg (fun w => w (by rw [q]; rfl)), e_nm, e_nm, nI_1]
        · have hf : fu n z G (4 * a + i) = false := by unfold fu; simp [q]
          refine ⟨s, fun b hb => ?_, ?_⟩
          · rw [h b hb]
            by_cases e : b = 4 * a + i
            · subst e; rw [hf]; rfl
            · cases fu n z G b
              · rfl
              · simp; omega
          · rw [if_pos (nI_ne0 (by omega) (by omega)), e_nm, nI_1])
      N 0 x1 (by omega) (by omega) (fun b hb => by rw [h1 b hb]; rfl)
  have main := lp_up (fun n' i (s : Int32) => lp_X1_fullSlots_4 N (nI n) ci sz n' s (nI i)) n (fun i s => ∀ b, b < 32 → bt s b = (fu n z G b && decide (b < 4 * i))) (fun f => ∀ b, b < 32 → bt f b = fu n z G b)
    (fun m s h => ⟨s, by simp only [lp_X1_fullSlots_4]; rw [if_pos (nI_le (Nat.le_refl _) (by omega))], fun b hb => by
      rw [h b hb]
      cases hf : fu n z G b with
      | false => rfl
      | true =>
        have ht := of_decide_eq_true (fu_th hf)
        simp; omega⟩)
    (fun m i s hi h => by
      right
      simp only [lp_X1_fullSlots_4]
      obtain ⟨f, e1, e2⟩ := inner i s hi h
      refine ⟨f, e2, ?_⟩
      rw [if_neg (nI_ge hi (by omega)), e1, e_b1, e_u1, e_nm, nI_1])
    N 0 0 (by omega) (by omega) (fun b hb => by rw [bt_0]; simp)
  obtain ⟨f, d1, d2⟩ := main
  refine ⟨f, ?_, d2⟩
  unfold f_X1_fullSlots
  rw [show lp_X1_fullSlots_4 N (nI n) ci sz N 0 0 = _ from d1, e_b1, e_u1]
theorem x_isFull {f : Int32} {r : Nat} (hr : r < 32) : f_X4_isFull f (nI r) = some (b1 (bt f r)) := by
  unfold f_X4_isFull
  simp only [q_is f hr]
  cases bt f r <;> simp [b1]
/-- who is linked to whom -/
def lkd (n : Nat) (z : Nat → Nat) (G : Nat → Nat → Nat) (r s : Nat) : Bool := fu n z G r && (fu n z G s && (mt G r s && decide (r ≠ s)))
theorem lkd_sy (n : Nat) (z : Nat → Nat) (G : Nat → Nat → Nat) (r s : Nat) : lkd n z G r s = lkd n z G s r := by
  unfold lkd
  rw [mt_sy, show decide (r ≠ s) = decide (s ≠ r) from by rw [decide_eq_decide]; exact ⟨Ne.symm, Ne.symm⟩]
  cases fu n z G r <;> cases fu n z G s <;> rfl
theorem x_link {n : Nat} {z : Nat → Nat} {G : Nat → Nat → Nat} (ha : aP n z G) {sz : Nat → Int32} {ci : Nat → Int64} (hc : cP n z G (nI n) sz ci) {N : Nat} (hN : 2000 ≤ N) (lv f0 ver : Int32) (lk0 : Nat → Int32) :
    ∃ f lk, f_X4_linkFullReferences N lv f0 lk0 (nI n) ver ci sz = some (ver, f, lk) ∧ (∀ b, b < 32 → bt f b = fu n z G b) ∧ ∀ r s, r < 32 → s < 32 → bt (lk r) s = lkd n z G r s := by
  obtain ⟨f, f1, f2⟩ := x_fulls ha hc hN
  have inner : ∀ i (g : Nat → Int32), i < 32 → fu n z G i = true → (∀ r s, r < i → s < 32 → bt (g r) s = (decide (s < i) && lkd n z G r s)) → g i = 0 →
      ∃ g', lp_X4_linkFullReferences_50 ci (nI i) f N 0 g = some g' ∧ ∀ r s, r < i + 1 → s < 32 → bt (g' r) s = (decide (s < i + 1) && lkd n z G r s) := by
    intro i g hi hfi hg hgi
    exact lp_up (fun n' j (s : Nat → Int32) => lp_X4_linkFullReferences_50 ci (nI i) f n' (nI j) s) i
      (fun j g' => (∀ r s, r < i → s < 32 → bt (g' r) s = (decide (s < i ∨ (s = i ∧ r < j)) && lkd n z G r s)) ∧ ∀ s, s < 32 → bt (g' i) s = (decide (s < j) && lkd n z G i s))
      (fun g' => ∀ r s, r < i + 1 → s < 32 → bt (g' r) s = (decide (s < i + 1) && lkd n z G r s))
      (fun m s h => ⟨s, by simp only [lp_X4_linkFullReferences_50]; rw [if_pos (nI_le (Nat.le_refl _) (by omega))], fun r q hr hq => by
        by_cases e : r = i
        · subst e
          rw [h.2 q hq]
          by_cases e2 : q = r
          · subst e2; unfold lkd; simp
          · rw [show decide (q < r) = decide (q < r + 1) from by rw [decide_eq_decide]; omega]
        · rw [h.1 r q (by omega) hq, show decide (q < i ∨ (q = i ∧ r < i)) = decide (q < i + 1) from by rw [decide_eq_decide]; omega]⟩)
      (fun m j g' hj h => by
        right
        simp only [lp_X4_linkFullReferences_50]
        rw [if_neg (nI_ge hj (by omega)), x_isFull (by omega), e_b1, f2 j (by omega)]
        have skip : lkd n z G i j = false → (∀ r s, r < i → s < 32 → bt (g' r) s = (decide (s < i ∨ (s = i ∧ r < j + 1)) && lkd n z G r s)) ∧ ∀ s, s < 32 → bt (g' i) s = (decide (s < j + 1) && lkd n z G i s) := by
          intro hno
          refine ⟨fun r q hr hq => ?_, fun q hq => ?_⟩
          · rw [h.1 r q hr hq]
            by_cases e : r = j ∧ q = i
            · obtain ⟨rfl, rfl⟩ := e
              rw [lkd_sy, hno]; simp
            · rw [show decide (q < i ∨ (q = i ∧ r < j)) = decide (q < i ∨ (q = i ∧ r < j + 1)) from by rw [decide_eq_decide]; omega]
          · rw [h.2 q hq]
            by_cases e : q = j
            · subst e; rw [hno]; simp
            · rw [show decide (q < j) = decide (q < j + 1) from by rw [decide_eq_decide]; omega]
        cases hfj : fu n z G j with
        | false =>
          refine ⟨g', skip (by unfold lkd; rw [hfj]; simp), ?_⟩
          rw [if_neg (by decide), e_nm, nI_1]
        | true =>
          rw [if_pos (by decide), x_cite hi, e_b1, x_cite (by omega), e_b1, cP_c hc (fu_th hfi), cP_c hc (fu_th hfj), x_common ha hfi hfj, e_b1]
          cases hmt : mt G i j with
          | false =>
            refine ⟨g', skip (by unfold lkd; rw [hmt]; simp), ?_⟩
            rw [if_neg (by decide), e_nm, nI_1]
          | true =>
            have hyes : lkd n z G i j = true := by unfold lkd; rw [hfi, hfj, hmt]; simp; omega
            refine ⟨upd (upd g' i (g' i ||| ((1 : Int32) <<< (nI j &&& 31)))) j (g' j ||| ((1 : Int32) <<< (nI i &&& 31))), ⟨fun r q hr hq => ?_, fun q hq => ?_⟩, ?_⟩
            · by_cases e : r = j
              · subst e
                rw [upd_s, bt_set _ hi hq, h.1 r q (by omega) hq]
                by_cases e2 : q = i
                · subst e2; rw [lkd_sy, hyes]; simp
                · rw [show decide (q < i ∨ (q = i ∧ r < r)) = decide (q < i ∨ (q = i ∧ r < r + 1)) from by rw [decide_eq_decide]; omega]; simp [e2]
              · rw [upd_n _ _ e, upd_n _ _ (by omega), h.1 r q hr hq, show decide (q < i ∨ (q = i ∧ r < j)) = decide (q < i ∨ (q = i ∧ r < j + 1)) from by rw [decide_eq_decide]; omega]
            · rw [upd_n _ _ (by omega), upd_s, bt_set _ (by omega) hq, h.2 q hq]
              by_cases e : q = j
              · subst e; rw [hyes]; simp
              · rw [show decide (q < j) = decide (q < j + 1) from by rw [decide_eq_decide]; omega]; simp [e]
            · rw [if_pos (by decide), e_rd _ _ hi (by omega), e_wrI _ _ _ hi (by omega), e_rd _ _ (by omega) (by omega), upd_n _ _ (by omega), e_wrI _ _ _ (by omega) (by omega), e_nm, nI_1])
      N 0 g (by omega) (by omega) ⟨fun r q hr hq => by rw [hg r q hr hq, show decide (q < i) = decide (q < i ∨ (q = i ∧ r < 0)) from by rw [decide_eq_decide]; omega], fun q hq => by rw [hgi, bt_0]; simp⟩
  have main := lp_up (fun n' i (s : Nat → Int32) => lp_X4_linkFullReferences_24 N ci f n' (nI i) s) 32 (fun i g => ∀ r s, r < i → s < 32 → bt (g r) s = (decide (s < i) && lkd n z G r s)) (fun g => ∀ r s, r < 32 → s < 32 → bt (g r) s = lkd n z G r s)
    (fun m s h => ⟨s, by simp only [lp_X4_linkFullReferences_24]; rw [if_pos (by decide)], fun r q hr hq => by rw [h r q hr hq]; simp [hq]⟩)
    (fun m i g hi h => by
      right
      simp only [lp_X4_linkFullReferences_24]
      have h0 : ∀ r s, r < i → s < 32 → bt (upd g i 0 r) s = (decide (s < i) && lkd n z G r s) := fun r q hr hq => by rw [upd_n _ _ (by omega)]; exact h r q hr hq
      rw [if_neg (show ¬ (32 : Int32) ≤ nI i from nI_ge (b := 32) hi (by omega)), e_wrI _ _ _ hi (by omega), x_isFull hi, e_b1, f2 i hi]
      cases hf : fu n z G i with
      | true =>
        obtain ⟨g', e1, e2⟩ := inner i (upd g i 0) hi hf h0 (upd_s _ _ _)
        refine ⟨g', e2, ?_⟩
        rw [if_pos (by decide), e1, e_b1, e_u1, e_nm, nI_1]
      | false =>
        refine ⟨upd g i 0, fun r q hr hq => ?_, ?_⟩
        · by_cases e : r = i
          · subst e; rw [upd_s, bt_0]; unfold lkd; rw [hf]; simp
          · rw [h0 r q (by omega) hq]
            by_cases e2 : q = i
            · subst e2; unfold lkd; rw [hf]; simp
            · rw [show decide (q < i) = decide (q < i + 1) from by rw [decide_eq_decide]; omega]
        · rw [if_neg (by decide), e_nm, nI_1])
    N 0 lk0 (by omega) (by omega) (fun r q hr => by omega)
  obtain ⟨lk, d1, d2⟩ := main
  refine ⟨f, lk, ?_, f2, d2⟩
  unfold f_X4_linkFullReferences f_X1_version
  rw [e_b1, f1, e_b1, show lp_X4_linkFullReferences_24 N ci f N 0 lk0 = _ from d1, e_b1, e_u1]
