/-! the class joins the citations of a case -/
theorem x_present {L k : Nat} (hk : k < 8) : f_X4_isPresent (nI L) (nI k) = some (b1 (L.testBit k)) := by
  unfold f_X4_isPresent
  rw [if_neg (nI_pos (by omega)), show (8 : Int32) = nI 8 from rfl, if_neg (nI_ge hk (by omega))]
  simp only [q_is (nI L) (show k < 32 by omega), bt_nI (show k < 32 by omega)]
  cases L.testBit k <;> simp [b1]
theorem x_pfr {n : Nat} {z : Nat → Nat} {G : Nat → Nat → Nat} {L N : Nat} (hN : 2000 ≤ N) {f : Int32} (hf : ∀ b, b < 32 → bt f b = fu n z G b) : ∃ o, f_X4_presentFullReferences N (nI L) f = some o ∧ ∀ b, b < 32 → bt o b = sp n z G L b := by
  have main := lp_up (fun n' i (s : Int32) => lp_X4_presentFullReferences_4 (nI L) n' s (nI i)) 8 (fun i s => ∀ b, b < 32 → bt s b = (decide (b / 4 < i) && L.testBit (b / 4))) (fun s => ∀ b, b < 32 → bt s b = L.testBit (b / 4))
    (fun m s h => ⟨s, by simp only [lp_X4_presentFullReferences_4]; rw [if_pos (by decide)], fun b hb => by rw [h b hb, decide_eq_true (show b / 4 < 8 by omega), Bool.true_and]⟩)
    (fun m i s hi h => by
      right
      simp only [lp_X4_presentFullReferences_4]
      rw [if_neg (show ¬ (8 : Int32) ≤ nI i from nI_ge (b := 8) hi (by omega)), x_present hi, e_b1]
      cases hL : L.testBit i with
      | false =>
        refine ⟨s, fun b hb => ?_, by rw [if_pos (by decide), e_nm, nI_1]⟩
        rw [h b hb]
        by_cases e : b / 4 = i
        · rw [e, hL]; simp
        · rw [show decide (b / 4 < i) = decide (b / 4 < i + 1) from by rw [decide_eq_decide]; omega]
      | true =>
        refine ⟨s ||| ((15 : Int32) <<< (nI (4 * i + 0) &&& 31)), fun b hb => ?_, by rw [if_neg (by decide), show f_X1_slotOf (nI i) 0 = _ from x_slot i 0, e_b1, e_nm, e_nm, nI_1]⟩
        rw [b_or, h b hb, bt_15 i hi b hb]
        by_cases e : b / 4 = i
        · rw [e, hL]; simp
        · rw [show decide (b / 4 < i) = decide (b / 4 < i + 1) from by rw [decide_eq_decide]; omega]; simp [e])
    N 0 0 (by omega) (by omega) (fun b hb => by rw [bt_0]; simp)
  obtain ⟨s, d1, d2⟩ := main
  refine ⟨f &&& s, ?_, fun b hb => by rw [b_and, hf b hb, d2 b hb, sp_fu]⟩
  unfold f_X4_presentFullReferences
  rw [show lp_X4_presentFullReferences_4 (nI L) N 0 0 = _ from d1, e_b1, e_u1]
theorem bt_inj {x y : Int32} (h : ∀ i, i < 32 → bt x i = bt y i) : x = y := b_ext h
/-- all of one chain, from its first on -/
theorem x_joined {n : Nat} {z : Nat → Nat} {G : Nat → Nat → Nat} (ha : aP n z G) {L N : Nat} {lab : Nat → Nat} (hN : 2000 ≤ N) (hlb : LB (sp n z G L) (mt G) lab) {lk : Nat → Int32} (hlk : ∀ r s, r < 32 → s < 32 → bt (lk r) s = lkd n z G r s) {o : Int32} {i : Nat} (hi : i < 32) (ho : ∀ b, b < 32 → bt o b = (sp n z G L b && decide (i ≤ lab b))) (hfx : fx n z G L lab i = true) :
    ∃ J, f_X4_joinedTo N lk (nI i) o = some J ∧ ∀ b, b < 32 → bt J b = (sp n z G L b && decide (lab b = i)) := by
  have hsp := fx_sp hfx
  have hli : lab i = i := by unfold fx at hfx; simp only [Bool.and_eq_true] at hfx; exact of_decide_eq_true hfx.2
  have hg : ∀ b, sp n z G L b = true → b < 32 := fun b h => sp_lt h ha.1
  -- inside: of this chain; it holds its first
  have pass : ∀ J0, (∀ b, b < 32 → bt J0 b = true → sp n z G L b = true ∧ lab b = i) → ∃ J, lp_X4_joinedTo_20 lk o N J0 (nI i) = some J ∧ (∀ b, b < 32 → bt J0 b = true → bt J b = true) ∧ (∀ b, b < 32 → bt J b = true → sp n z G L b = true ∧ lab b = i) ∧
      ∀ a b, a < 32 → b < 32 → i ≤ a → bt J0 a = true → lkd n z G a b = true → sp n z G L b = true → bt J b = true := by
    intro J0 h0
    exact lp_up (fun n' k (s : Int32) => lp_X4_joinedTo_20 lk o n' s (nI k)) 32
      (fun k s => (∀ b, b < 32 → bt J0 b = true → bt s b = true) ∧ (∀ b, b < 32 → bt s b = true → sp n z G L b = true ∧ lab b = i) ∧ ∀ a b, a < k → b < 32 → i ≤ a → bt J0 a = true → lkd n z G a b = true → sp n z G L b = true → bt s b = true)
      (fun J => (∀ b, b < 32 → bt J0 b = true → bt J b = true) ∧ (∀ b, b < 32 → bt J b = true → sp n z G L b = true ∧ lab b = i) ∧ ∀ a b, a < 32 → b < 32 → i ≤ a → bt J0 a = true → lkd n z G a b = true → sp n z G L b = true → bt J b = true)
      (fun m s h => ⟨s, by simp only [lp_X4_joinedTo_20]; rw [if_pos (by decide)], h⟩)
      (fun m k s hk h => by
        right
        simp only [lp_X4_joinedTo_20]
        rw [if_neg (show ¬ (32 : Int32) ≤ nI k from nI_ge (b := 32) hk (by omega))]
        simp only [q_is s hk]
        cases hb : bt s k with
        | false =>
          refine ⟨s, ⟨h.1, h.2.1, fun a b hak hb2 hia h1 h2 h3 => ?_⟩, by rw [if_pos (by decide), e_nm, nI_1]⟩
          by_cases e : a = k
          · subst e; rw [h.1 a hk h1] at hb; exact absurd hb (by decide)
          · exact h.2.2 a b (by omega) hb2 hia h1 h2 h3
        | true =>
          have hin := h.2.1 k hk hb
          refine ⟨s ||| (lk k &&& o), ⟨fun b hb2 h1 => ?_, fun b hb2 h1 => ?_, fun a b hak hb2 hia h1 h2 h3 => ?_⟩, by rw [if_neg (by decide), e_rd _ _ hk (by omega), e_nm, e_nm, nI_1]⟩
          · rw [b_or, h.1 b hb2 h1]; rfl
          · rw [b_or, b_and, hlk k b hk hb2, ho b hb2] at h1
            simp only [Bool.or_eq_true, Bool.and_eq_true, decide_eq_true_eq] at h1
            rcases h1 with h1 | ⟨h1, h2, -⟩
            · exact h.2.1 b hb2 h1
            · refine ⟨h2, ?_⟩
              unfold lkd at h1
              simp only [Bool.and_eq_true, decide_eq_true_eq] at h1
              rw [← hlb.2.2 k b hin.1 h2 h1.2.2.1]; exact hin.2
          · rw [b_or]
            by_cases e : a = k
            · subst e
              rw [b_and, hlk a b hk hb2, h2, ho b hb2, h3]
              have e2 : lab b = i := by
                unfold lkd at h2
                simp only [Bool.and_eq_true, decide_eq_true_eq] at h2
                rw [← hlb.2.2 a b hin.1 h3 h2.2.2.1]; exact hin.2
              simp [e2]
            · rw [h.2.2 a b (by omega) hb2 hia h1 h2 h3]; rfl)
      N i J0 (by omega) (by omega) ⟨fun b _ h => h, h0, fun a b h1 _ h2 => by omega⟩
  have main := lp_up (fun n' k (s : Int32) => lp_X4_joinedTo_7 N lk (nI i) o n' s (nI k)) 32
    (fun k s => bt s i = true ∧ (∀ b, b < 32 → bt s b = true → sp n z G L b = true ∧ lab b = i) ∧ k + 1 ≤ fb_ct (bt s) 32)
    (fun X => ∃ J, X = .inl J ∧ bt J i = true ∧ (∀ b, b < 32 → bt J b = true → sp n z G L b = true ∧ lab b = i) ∧ ∀ a b, a < 32 → b < 32 → bt J a = true → lkd n z G a b = true → sp n z G L b = true → bt J b = true)
    (fun m s h => by
      have := fb_ct_le (bt s) 32
      have := h.2.2
      omega)
    (fun m k s hk h => by
      simp only [lp_X4_joinedTo_7]
      obtain ⟨J, e1, e2, e3, e4⟩ := pass s h.2.1
      rw [if_neg (show ¬ (32 : Int32) ≤ nI k from nI_ge (b := 32) hk (by omega)), e1, e_b1, e_u1]
      by_cases q : J = s
      · left
        refine ⟨.inl J, by rw [if_neg (fun w => w q)], J, rfl, e2 i hi h.1, e3, fun a b ha32 hb hJa hl hs => ?_⟩
        rw [q] at hJa
        have := (h.2.1 a ha32 hJa).2
        have l := hlb.1 a ha32
        exact e4 a b ha32 hb (by omega) hJa hl hs
      · right
        refine ⟨J, ⟨e2 i hi h.1, e3, ?_⟩, by rw [if_pos q, e_nm, nI_1]⟩
        have hlt : fb_ct (bt s) 32 < fb_ct (bt J) 32 := by
          rcases Nat.lt_or_ge (fb_ct (bt s) 32) (fb_ct (bt J) 32) with w | w
          · exact w
          · exfalso
            apply q
            apply bt_inj
            intro b hb
            cases hsb : bt s b with
            | true => exact e2 b hb hsb
            | false =>
              cases hJb : bt J b with
              | false => rfl
              | true =>
                exfalso
                have h1 := fb_ct_upd (bt s) true (i := b) (n := 32) hb
                have h2 : fb_ct (fun k => if k = b then true else bt s k) 32 ≤ fb_ct (bt J) 32 := fb_ct_sub (fun j hj w => by
                  by_cases e : j = b
                  · subst e; exact hJb
                  · simp only [e, if_false] at w; exact e2 j hj w)
                rw [hsb] at h1
                have h3 : (if false = true then (1 : Nat) else 0) = 0 := rfl
                have h4 : (if true = true then (1 : Nat) else 0) = 1 := rfl
                rw [h3, h4] at h1
                omega
        have := h.2.2
        omega)
    N 0 ((1 : Int32) <<< (nI i &&& 31)) (by omega) (by omega) ⟨by rw [bt_one hi hi]; simp, fun b hb h => by
      rw [bt_one hi hb] at h
      have := of_decide_eq_true h
      subst this
      exact ⟨hsp, hli⟩, by
      have : 0 < fb_ct (bt ((1 : Int32) <<< (nI i &&& 31))) 32 := fb_ct_pos.mpr ⟨i, hi, by rw [bt_one hi hi]; simp⟩
      omega⟩
  obtain ⟨X, d1, J, rfl, j1, j2, j3⟩ := main
  refine ⟨J, ?_, fun b hb => ?_⟩
  · unfold f_X4_joinedTo
    rw [e_nm, show lp_X4_joinedTo_7 N lk (nI i) o N ((1 : Int32) <<< (nI i &&& 31)) 0 = _ from d1, e_b1, e_s2l, e_u1]
  · rw [Bool.eq_iff_iff]
    simp only [Bool.and_eq_true, decide_eq_true_eq]
    refine ⟨fun w => j2 b hb w, fun w => ?_⟩
    have hcn := hlb.2.1 b hb
    rw [w.2] at hcn
    have := hcn (fun x => if bt J x = true then 1 else 0) (fun p q hp hq hE => by
      have p32 := hg p hp
      have q32 := hg q hq
      by_cases e : p = q
      · rw [e]
      · have l1 : lkd n z G p q = true := by
          unfold lkd
          rw [sp_fu] at hp hq
          simp only [Bool.and_eq_true] at hp hq
          rw [hp.1, hq.1, hE]; simp [e]
        have l2 : lkd n z G q p = true := by rw [lkd_sy]; exact l1
        cases h1 : bt J p with
        | true => simp [j3 p q p32 q32 h1 l1 hq]
        | false =>
          cases h2 : bt J q with
          | true => rw [j3 q p q32 p32 h2 l2 hp] at h1; exact absurd h1 (by decide)
          | false => rfl)
    simp only [j1, if_true] at this
    by_cases hJ : bt J b = true
    · exact hJ
    · simp [hJ] at this
/-- how the class holds the cases -/
def dC (n : Nat) (z : Nat → Nat) (G : Nat → Nat → Nat) (L : Nat) (lab : Nat → Nat) (i : Nat) (c1 : Int32) (ca fs mb nb : Nat → Int32) : Prop :=
  c1 = nI (fb_ct (fx n z G L lab) i) ∧ (∀ c, c < fb_ct (fx n z G L lab) i → fs c = nI (kth (fx n z G L lab) c) ∧ ∀ b, b < 32 → bt (mb c) b = (sp n z G L b && decide (lab b = kth (fx n z G L lab) c))) ∧
  (∀ b, b < 32 → sp n z G L b = true → lab b < i → ca b = nI (cs n z G L lab b)) ∧ ∀ t, t < 6 → ∀ c, c < 32 → bt (nb t) c = (decide (c < fb_ct (fx n z G L lab) i) && decide (G (kth (fx n z G L lab) c) 1 = t))
theorem x_addCase {n : Nat} {z : Nat → Nat} {G : Nat → Nat → Nat} (ha : aP n z G) {sz : Nat → Int32} {ci : Nat → Int64} (hc : cP n z G (nI n) sz ci) {L N : Nat} {lab : Nat → Nat} (hN : 2000 ≤ N) (hlb : LB (sp n z G L) (mt G) lab) {i : Nat} (hi : i < 32) (hfx : fx n z G L lab i = true) {J : Int32} (hJ : ∀ b, b < 32 → bt J b = (sp n z G L b && decide (lab b = i))) {c1 : Int32} {ca fs mb nb : Nat → Int32} (h : dC n z G L lab i c1 ca fs mb nb) :
    ∃ c2 ca2 fs2 mb2 nb2, f_X4_addCase N c1 ca fs mb nb ci (nI i) J = some (c2, ca2, fs2, mb2, nb2) ∧ dC n z G L lab (i + 1) c2 ca2 fs2 mb2 nb2 := by
  obtain ⟨h1, h2, h3, h4⟩ := h
  have hle := fb_ct_le (fx n z G L lab) i
  have hki : kth (fx n z G L lab) (fb_ct (fx n z G L lab) i) = i := kth_of hi hfx
  have hsp := fx_sp hfx
  have ht := lf_th (sp_lf hsp)
  have hv := th_v ha ht
  have hv0 : G i 0 = 0 := sp_0 hsp
  have hv1 : G i 1 < 6 ∧ G i 5 = 0 := by unfold vF at hv; omega
  have hs : fb_ct (fx n z G L lab) (i + 1) = fb_ct (fx n z G L lab) i + 1 := by rw [fb_ct_succ, hfx]; rfl
  have main := lp_up (fun n' k (s : Nat → Int32) => lp_X4_addCase_66 J (nI (fb_ct (fx n z G L lab) i)) n' (nI k) s) 32
    (fun k s => (∀ b, b < 32 → sp n z G L b = true → lab b < i → s b = nI (cs n z G L lab b)) ∧ ∀ b, b < k → sp n z G L b = true → lab b = i → s b = nI (fb_ct (fx n z G L lab) i))
    (fun s => ∀ b, b < 32 → sp n z G L b = true → lab b < i + 1 → s b = nI (cs n z G L lab b))
    (fun m s h => ⟨s, by simp only [lp_X4_addCase_66]; rw [if_pos (by decide)], fun b hb hs1 hl => by
      by_cases e : lab b = i
      · rw [h.2 b hb hs1 e]; unfold cs; rw [e]
      · exact h.1 b hb hs1 (by omega)⟩)
    (fun m k s hk h => by
      right
      simp only [lp_X4_addCase_66]
      rw [if_neg (show ¬ (32 : Int32) ≤ nI k from nI_ge (b := 32) hk (by omega))]
      simp only [q_is J hk]
      cases hb : bt J k with
      | false =>
        refine ⟨s, ⟨h.1, fun b hb2 hs1 hl => ?_⟩, by rw [if_pos (by decide), e_nm, nI_1]⟩
        by_cases e : b = k
        · subst e; rw [hJ b hk, hs1, hl] at hb; simp at hb
        · exact h.2 b (by omega) hs1 hl
      | true =>
        rw [hJ k hk] at hb
        simp only [Bool.and_eq_true, decide_eq_true_eq] at hb
        refine ⟨upd s k (nI (fb_ct (fx n z G L lab) i)), ⟨fun b hb2 hs1 hl => ?_, fun b hb2 hs1 hl => ?_⟩, by rw [if_neg (by decide), e_wrI _ _ _ hk (by omega), e_nm, nI_1]⟩
        · rw [upd_n _ _ (fun e => by subst e; omega)]; exact h.1 b hb2 hs1 hl
        · by_cases e : b = k
          · subst e; rw [upd_s]
          · rw [upd_n _ _ e]; exact h.2 b (by omega) hs1 hl)
    N i ca (by omega) (by omega) ⟨h3, fun b hb hs1 hl => by
      have := hlb.1 b (sp_lt hs1 ha.1)
      omega⟩
  obtain ⟨ca2, e1, e2⟩ := main
  refine ⟨nI (fb_ct (fx n z G L lab) i + 1), ca2, upd fs (fb_ct (fx n z G L lab) i) (nI i), upd mb (fb_ct (fx n z G L lab) i) J, upd nb (G i 1) (nb (G i 1) ||| ((1 : Int32) <<< (nI (fb_ct (fx n z G L lab) i) &&& 31))), ?_, ?_⟩
  · unfold f_X4_addCase
    rw [h1, if_pos (show nI (fb_ct (fx n z G L lab) i) < (32 : Int32) from nI_lt (b := 32) (by omega) (by omega)), x_cite hi, e_b1, cP_c hc ht, c_first hv, e_b1, show G i 1 + G i 5 = G i 1 by omega, if_neg (show ¬ (6 : Int32) ≤ nI (G i 1) from nI_ge (b := 6) hv1.1 (by omega)), e_rd _ _ hv1.1 (by omega), e_wrI _ _ _ hv1.1 (by omega)]
    unfold j_X4_addCase_43
    rw [e_wrI _ _ _ (by omega) (by omega), e_wrI _ _ _ (by omega) (by omega), e1, e_b1, e_u1, e_nm, nI_1]
  · refine ⟨by rw [hs], fun c hcc => ?_, e2, fun t ht6 c hc32 => ?_⟩
    · rw [hs] at hcc
      by_cases e : c = fb_ct (fx n z G L lab) i
      · subst e
        rw [upd_s, upd_s, hki]
        exact ⟨rfl, hJ⟩
      · rw [upd_n _ _ e, upd_n _ _ e]; exact h2 c (by omega)
    · rw [hs]
      by_cases e : t = G i 1
      · subst e
        rw [upd_s, bt_set _ (by omega) hc32, h4 _ ht6 c hc32]
        by_cases e2 : c = fb_ct (fx n z G L lab) i
        · subst e2; rw [hki]; simp
        · rw [show decide (c < fb_ct (fx n z G L lab) i + 1) = decide (c < fb_ct (fx n z G L lab) i) from by rw [decide_eq_decide]; omega]; simp [e2]
      · rw [upd_n _ _ e, h4 t ht6 c hc32]
        by_cases e2 : c = fb_ct (fx n z G L lab) i
        · subst e2; rw [hki]
          have : ¬ G i 1 = t := fun w => e w.symm
          simp [this]
        · rw [show decide (c < fb_ct (fx n z G L lab) i + 1) = decide (c < fb_ct (fx n z G L lab) i) from by rw [decide_eq_decide]; omega]
theorem x_join {n : Nat} {z : Nat → Nat} {G : Nat → Nat → Nat} (ha : aP n z G) {sz : Nat → Int32} {ci : Nat → Int64} (hc : cP n z G (nI n) sz ci) {L N : Nat} {lab : Nat → Nat} (hN : 2000 ≤ N) (hlb : LB (sp n z G L) (mt G) lab) {f : Int32} (hf : ∀ b, b < 32 → bt f b = fu n z G b) {lk : Nat → Int32} (hlk : ∀ r s, r < 32 → s < 32 → bt (lk r) s = lkd n z G r s) (c0 : Int32) (ca fs mb nb : Nat → Int32) :
    ∃ c2 ca2 fs2 mb2 nb2, f_X4_joinCases N (nI L) f c0 ca fs lk mb nb ci = some (c2, ca2, fs2, mb2, nb2) ∧ dC n z G L lab 32 c2 ca2 fs2 mb2 nb2 := by
  obtain ⟨nb0, n1, n2⟩ := x_fill (n := 6) (N := N) (by omega) (by omega) nb 0
  obtain ⟨o, o1, o2⟩ := x_pfr (L := L) (N := N) hN hf
  have main := lp_up (fun n' i (s : Int32 × Int32 × (Nat → Int32) × (Nat → Int32) × (Nat → Int32) × (Nat → Int32)) => lp_X4_joinCases_20 N lk ci n' s.1 (nI i) s.2.1 s.2.2.1 s.2.2.2.1 s.2.2.2.2.1 s.2.2.2.2.2) 32
    (fun i s => (∀ b, b < 32 → bt s.1 b = (sp n z G L b && decide (i ≤ lab b))) ∧ dC n z G L lab i s.2.1 s.2.2.1 s.2.2.2.1 s.2.2.2.2.1 s.2.2.2.2.2)
    (fun b => dC n z G L lab 32 b.1 b.2.1 b.2.2.1 b.2.2.2.1 b.2.2.2.2)
    (fun m s h => ⟨s.2, by simp only [lp_X4_joinCases_20]; rw [if_pos (by decide)], h.2⟩)
    (fun m i s hi h => by
      obtain ⟨o, c1, ca, fs, mb, nb⟩ := s
      obtain ⟨h1, h2⟩ := h
      simp only at h1 h2 ⊢
      right
      simp only [lp_X4_joinCases_20]
      rw [if_neg (show ¬ (32 : Int32) ≤ nI i from nI_ge (b := 32) hi (by omega))]
      simp only [q_no o hi]
      have hli := hlb.1 i hi
      cases hb : bt o i with
      | true =>
        have hb2 := hb
        rw [h1 i hi] at hb2
        simp only [Bool.and_eq_true, decide_eq_true_eq] at hb2
        have hfx : fx n z G L lab i = true := by unfold fx; rw [hb2.1]; simp; omega
        obtain ⟨J, j1, j2⟩ := x_joined ha hN hlb hlk hi h1 hfx
        obtain ⟨c2, ca2, fs2, mb2, nb2, a1, a2⟩ := x_addCase ha hc hN hlb hi hfx j2 h2
        refine ⟨(o &&& (J ^^^ (-1)), c2, ca2, fs2, mb2, nb2), ⟨fun b hb3 => ?_, a2⟩, ?_⟩
        · show bt (o &&& (J ^^^ (-1))) b = _
          rw [bt_sub _ _ hb3, h1 b hb3, j2 b hb3]
          cases sp n z G L b with
          | false => rfl
          | true =>
            simp only [Bool.true_and]
            by_cases e : lab b = i
            · rw [e]; simp
            · rw [show decide (i ≤ lab b) = decide (i + 1 ≤ lab b) from by rw [decide_eq_decide]; omega]; simp [e]
        · rw [if_pos (by decide), j1, e_b1, e_nm, a1, e_b5, e_nm, nI_1]
      | false =>
        have hfx : fx n z G L lab i = false := by
          cases q : fx n z G L lab i with
          | false => rfl
          | true =>
            exfalso
            have hs := fx_sp q
            unfold fx at q
            simp only [Bool.and_eq_true, decide_eq_true_eq] at q
            rw [h1 i hi, hs, q.2] at hb
            simp at hb
        have hno : ∀ b, b < 32 → sp n z G L b = true → lab b ≠ i := by
          intro b hb3 hs e
          have := fx_lab ha.1 hlb hs
          rw [e, hfx] at this
          exact absurd this (by decide)
        have hs : fb_ct (fx n z G L lab) (i + 1) = fb_ct (fx n z G L lab) i := by rw [fb_ct_succ, hfx]; rfl
        refine ⟨(o, c1, ca, fs, mb, nb), ⟨fun b hb3 => ?_, ?_⟩, by rw [if_neg (by decide), e_nm, nI_1]⟩
        · show bt o b = _
          rw [h1 b hb3]
          cases q : sp n z G L b with
          | false => rfl
          | true =>
            have := hno b hb3 q
            rw [show decide (i ≤ lab b) = decide (i + 1 ≤ lab b) from by rw [decide_eq_decide]; omega]
        · obtain ⟨g1, g2, g3, g4⟩ := h2
          unfold dC
          rw [hs]
          exact ⟨g1, g2, fun b hb3 hs1 hl => g3 b hb3 hs1 (by have := hno b hb3 hs1; omega), g4⟩)
    N 0 (o, 0, ca, fs, mb, nb0) (by omega) (by omega) ⟨fun b hb => by rw [o2 b hb]; simp, rfl, fun c hcc => absurd hcc (Nat.not_lt_zero c), fun b _ _ hl => by omega, fun t ht c _ => by
      show bt (nb0 t) c = _
      rw [n2 t ht, bt_0]
      simp [fb_ct]⟩
  obtain ⟨⟨c2, ca2, fs2, mb2, nb2⟩, d1, d2⟩ := main
  refine ⟨c2, ca2, fs2, mb2, nb2, ?_, d2⟩
  unfold f_X4_joinCases
  rw [n1, e_b1, o1, e_b1, show lp_X4_joinCases_20 N lk ci N o 0 0 ca fs mb nb0 = _ from d1, e_b1, e_u5]
