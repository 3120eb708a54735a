/-! move, cut and put on a paper: the reference -/
section
variable {n : Nat} {z : Nat → Nat} {G : Nat → Nat → Nat} {p sz : Nat → Int32} {ci : Nat → Int64} {N : Nat} {nt ver : Int32}
/-- note k of page p has w references, H j -/
def nP (w : Nat) (H : Nat → Nat → Nat) (p : Nat → Int32) (k : Nat) : Prop := p (1 + k) = nI w ∧ ∀ j, j < w → ∀ i, i < 8 → p (9 + 8 * (4 * k + j) + i) = nI (H j i)
theorem nP_of (hm : mP n z G p) {k : Nat} (hk : k < n) : nP (z k) (fun j => G (4 * k + j)) p k := hm.2 k hk
theorem nP_cong {w k : Nat} {H : Nat → Nat → Nat} {q : Nat → Int32} (h : nP w H p k) (hw : w ≤ 4) (hk : k < 8) (e : ∀ i, 0 < i → i < 265 → q i = p i) : nP w H q k :=
  ⟨by rw [e _ (by omega) (by omega)]; exact h.1, fun j hj i hi => by rw [e _ (by omega) (by omega)]; exact h.2 j hj i hi⟩
def cpN (p q : Nat → Int32) (a b i : Nat) : Int32 := if i = 1 + a then q (1 + b) else if 9 + 32 * a ≤ i ∧ i < 41 + 32 * a then q (i + 32 * b - 32 * a) else p i
theorem cpN_in {q : Nat → Int32} {a b w : Nat} {H : Nat → Nat → Nat} (h : nP w H q b) (hw : w ≤ 4) (hA : a < 8) : nP w H (cpN p q a b) a := by
  refine ⟨?_, fun j hj i hi => ?_⟩
  · unfold cpN; rw [if_pos rfl]; exact h.1
  · unfold cpN
    rw [if_neg (by omega), if_pos (by omega), ← h.2 j hj i hi]
    congr 1; omega
theorem cpN_out {q : Nat → Int32} {a b c w : Nat} {H : Nat → Nat → Nat} (h : nP w H p c) (hw : w ≤ 4) (hc : c ≠ a) (hc8 : c < 8) (hA8 : a < 8) : nP w H (cpN p q a b) c := by
  refine ⟨?_, fun j hj i hi => ?_⟩
  · unfold cpN; rw [if_neg (by omega), if_neg (by omega)]; exact h.1
  · unfold cpN
    rw [if_neg (by omega), if_neg (by omega)]
    exact h.2 j hj i hi
theorem cpN_0 (p q : Nat → Int32) (a b : Nat) : cpN p q a b 0 = p 0 := by
  unfold cpN
  rw [if_neg (by omega), if_neg (by omega)]
theorem m_copy (p q : Nat → Int32) (hN : 2000 ≤ N) {a b : Nat} (hA : a < 8) (hB : b < 8) : f_X7_copyNote N p q (nI a) (nI b) = some (cpN p q a b) := by
  have main := lp_up (fun m i (s : Nat → Int32) => lp_X7_copyNote_13 q (nI a) (nI b) m (nI i) s) 32 (fun k s => ∀ i, s i = if i = 1 + a then q (1 + b) else if 9 + 32 * a ≤ i ∧ i < 9 + 32 * a + k then q (i + 32 * b - 32 * a) else p i) (fun s => ∀ i, s i = cpN p q a b i)
    (fun m s w => ⟨s, by
      simp only [lp_X7_copyNote_13]
      rw [if_pos (show (32 : Int32) ≤ nI 32 from by decide)], fun i => by
        rw [w i]
        unfold cpN
        by_cases e : i = 1 + a
        · rw [if_pos e, if_pos e]
        · rw [if_neg e, if_neg e]
          by_cases e2 : 9 + 32 * a ≤ i ∧ i < 41 + 32 * a
          · rw [if_pos (by omega), if_pos e2]
          · rw [if_neg (by omega), if_neg e2]⟩)
    (fun m k s hk w => by
      refine Or.inr ⟨upd s (9 + 32 * a + k) (q (9 + 32 * b + k)), fun i => ?_, ?_⟩
      · by_cases e : i = 9 + 32 * a + k
        · subst e
          rw [upd_s, if_neg (by omega), if_pos (by omega)]
          congr 1; omega
        · rw [upd_n _ _ e, w i]
          by_cases e1 : i = 1 + a
          · rw [if_pos e1, if_pos e1]
          · rw [if_neg e1, if_neg e1]
            by_cases e2 : 9 + 32 * a ≤ i ∧ i < 9 + 32 * a + k
            · rw [if_pos e2, if_pos (by omega)]
            · rw [if_neg e2, if_neg (by omega)]
      · simp only [lp_X7_copyNote_13]
        rw [if_neg (show ¬ (32 : Int32) ≤ nI k from nI_ge (b := 32) hk (by omega)), show (9 : Int32) = nI 9 from rfl, show (32 : Int32) = nI 32 from rfl, pk_mul, pk_mul, nI_add, nI_add, nI_add, nI_add, e_rd _ _ (by omega) (by omega), e_wrI _ _ _ (by omega) (by omega), e_nm, nI_1])
    N 0 (upd p (1 + a) (q (1 + b))) (by omega) (by omega) (fun i => by
      by_cases e : i = 1 + a
      · rw [e, upd_s, if_pos rfl]
      · rw [upd_n _ _ e, if_neg e, if_neg (by omega)])
  obtain ⟨s, k1, k2⟩ := main
  unfold f_X7_copyNote
  rw [show (1 : Int32) + nI b = nI (1 + b) from a_add 1 b, e_rd _ _ (by omega) (by omega), show (1 : Int32) + nI a = nI (1 + a) from a_add 1 a, e_wrI _ _ _ (by omega) (by omega), show lp_X7_copyNote_13 q (nI a) (nI b) N 0 (upd p (1 + a) (q (1 + b))) = some s from k1, e_b1, e_u1]
  exact congrArg some (funext k2)
theorem m_copyA (p : Nat → Int32) (hN : 2000 ≤ N) {a b : Nat} (hA : a < 8) (hB : b < 8) (hab : a ≠ b) : f_X7_copyNote_al N p (nI a) (nI b) = some (cpN p p a b) := by
  have main := lp_up (fun m i (s : Nat → Int32) => lp_X7_copyNote_al_13 (nI a) (nI b) m (nI i) s) 32 (fun k s => ∀ i, s i = if i = 1 + a then p (1 + b) else if 9 + 32 * a ≤ i ∧ i < 9 + 32 * a + k then p (i + 32 * b - 32 * a) else p i) (fun s => ∀ i, s i = cpN p p a b i)
    (fun m s w => ⟨s, by
      simp only [lp_X7_copyNote_al_13]
      rw [if_pos (show (32 : Int32) ≤ nI 32 from by decide)], fun i => by
        rw [w i]
        unfold cpN
        by_cases e : i = 1 + a
        · rw [if_pos e, if_pos e]
        · rw [if_neg e, if_neg e]
          by_cases e2 : 9 + 32 * a ≤ i ∧ i < 41 + 32 * a
          · rw [if_pos (by omega), if_pos e2]
          · rw [if_neg (by omega), if_neg e2]⟩)
    (fun m k s hk w => by
      have hs : s (9 + 32 * b + k) = p (9 + 32 * b + k) := by rw [w, if_neg (by omega), if_neg (by omega)]
      refine Or.inr ⟨upd s (9 + 32 * a + k) (s (9 + 32 * b + k)), fun i => ?_, ?_⟩
      · rw [hs]
        by_cases e : i = 9 + 32 * a + k
        · subst e
          rw [upd_s, if_neg (by omega), if_pos (by omega)]
          congr 1; omega
        · rw [upd_n _ _ e, w i]
          by_cases e1 : i = 1 + a
          · rw [if_pos e1, if_pos e1]
          · rw [if_neg e1, if_neg e1]
            by_cases e2 : 9 + 32 * a ≤ i ∧ i < 9 + 32 * a + k
            · rw [if_pos e2, if_pos (by omega)]
            · rw [if_neg e2, if_neg (by omega)]
      · simp only [lp_X7_copyNote_al_13]
        rw [if_neg (show ¬ (32 : Int32) ≤ nI k from nI_ge (b := 32) hk (by omega)), show (9 : Int32) = nI 9 from rfl, show (32 : Int32) = nI 32 from rfl, pk_mul, pk_mul, nI_add, nI_add, nI_add, nI_add, e_rd _ _ (by omega) (by omega), e_wrI _ _ _ (by omega) (by omega), e_nm, nI_1])
    N 0 (upd p (1 + a) (p (1 + b))) (by omega) (by omega) (fun i => by
      by_cases e : i = 1 + a
      · rw [e, upd_s, if_pos rfl]
      · rw [upd_n _ _ e, if_neg e, if_neg (by omega)])
  obtain ⟨s, k1, k2⟩ := main
  unfold f_X7_copyNote_al
  rw [show (1 : Int32) + nI b = nI (1 + b) from a_add 1 b, e_rd _ _ (by omega) (by omega), show (1 : Int32) + nI a = nI (1 + a) from a_add 1 a, e_wrI _ _ _ (by omega) (by omega), show lp_X7_copyNote_al_13 (nI a) (nI b) N 0 (upd p (1 + a) (p (1 + b))) = some s from k1, e_b1, e_u1]
  exact congrArg some (funext k2)
theorem m_layP (to ot : Nat → Int32) (hN : 2000 ≤ N) : ∃ g, f_X7_lay N to ot = some g ∧ ∀ i, i < 265 → g i = ot i := by
  have main := lp_up (fun m i (s : Nat → Int32) => lp_X7_lay_2 ot m (nI i) s) 265 (fun k s => ∀ i, i < k → s i = ot i) (fun s => ∀ i, i < 265 → s i = ot i)
    (fun m s w => ⟨s, by
      simp only [lp_X7_lay_2]
      rw [if_pos (show (265 : Int32) ≤ nI 265 from by decide)], w⟩)
    (fun m k s hk w => by
      refine Or.inr ⟨upd s k (ot k), fun i hi => ?_, ?_⟩
      · by_cases e : i = k
        · rw [e, upd_s]
        · rw [upd_n _ _ e]; exact w i (by omega)
      · simp only [lp_X7_lay_2]
        rw [if_neg (show ¬ (265 : Int32) ≤ nI k from nI_ge (b := 265) hk (by omega)), e_rd _ _ hk (by omega), e_wrI _ _ _ hk (by omega), e_nm, nI_1])
    N 0 to (by omega) (by omega) (fun i hi => by omega)
  obtain ⟨s, k1, k2⟩ := main
  refine ⟨s, ?_, k2⟩
  unfold f_X7_lay
  rw [show lp_X7_lay_2 ot N 0 to = some s from k1, e_b1, e_u1]
theorem mP_lay (ha : aP n z G) (hm : mP n z G p) {q : Nat → Int32} (e : ∀ i, i < 265 → q i = p i) : mP n z G q :=
  ⟨by rw [e 0 (by omega)]; exact hm.1, fun k hk => nP_cong (nP_of hm hk) (ha.2 k hk).2.1 (by have := ha.1; omega) (fun i _ hi => e i hi)⟩
/-! the move -/
theorem m_mv3 (rm : Nat → Int32) (hN : 2000 ≤ N) {a b : Nat} (hA : a < 8) (hB : b < 8) : ∃ g, lp_X7_moveOn_3 (nI a) (nI b) N 0 rm = some g ∧ ∀ k, k < 8 → g k = nI (mvR a b k) := by
  have h45 : ∀ (rc : Int32 → (Nat → Int32) → Option (Nat → Int32)) (k : Nat) (s : Nat → Int32), k < 8 → ¬ k = a → ¬ (a < k ∧ k ≤ b) → j_X7_moveOn_45 rc (nI a) (nI b) (nI k) (nI k) s = rc (nI (k + 1)) (upd s k (nI (mvR a b k))) := by
    intro rc k s hk q1 q2
    unfold j_X7_moveOn_45 mvR
    rw [if_neg q1, if_neg q2]
    by_cases q3 : k < b
    · rw [if_pos (nI_lt q3 (by omega)), if_neg (by omega), e_wrI _ _ _ hk (by omega), e_nm, nI_1]
    · rw [if_neg (nI_nlt (by omega) (by omega))]
      by_cases q4 : a ≤ k
      · rw [if_pos (nI_le q4 (by omega)), if_neg (by omega), e_wrI _ _ _ hk (by omega), e_nm, nI_1]
      · rw [if_neg (nI_ge (by omega) (by omega)), if_pos (by omega), nI_1, e_wrI _ _ _ hk (by omega), e_nm]
  have main := lp_up (fun m i (s : Nat → Int32) => lp_X7_moveOn_3 (nI a) (nI b) m (nI i) s) 8 (fun i s => ∀ k, k < i → s k = nI (mvR a b k)) (fun s => ∀ k, k < 8 → s k = nI (mvR a b k))
    (fun m s w => ⟨s, by
      simp only [lp_X7_moveOn_3]
      rw [if_pos (show (8 : Int32) ≤ nI 8 from by decide)], w⟩)
    (fun m i s hi w => by
      refine Or.inr ⟨upd s i (nI (mvR a b i)), fun k hk => ?_, ?_⟩
      · by_cases e : k = i
        · rw [e, upd_s]
        · rw [upd_n _ _ e]; exact w k (by omega)
      · simp only [lp_X7_moveOn_3]
        rw [if_neg (show ¬ (8 : Int32) ≤ nI i from nI_ge (b := 8) hi (by omega))]
        by_cases q1 : i = a
        · have e : mvR a b i = b := by unfold mvR; rw [if_pos q1]
          rw [if_neg (fun k => k (by rw [q1])), e_wrI _ _ _ hi (by omega), e_nm, nI_1, e]
        · rw [if_pos (fun k => q1 ((nI_eq (by omega) (by omega)).mp k))]
          by_cases q2 : i ≤ a
          · rw [if_pos (nI_le q2 (by omega)), h45 _ i s hi q1 (by omega)]
          · rw [if_neg (nI_ge (by omega) (by omega))]
            by_cases q3 : b < i
            · rw [if_pos (nI_lt q3 (by omega)), h45 _ i s hi q1 (by omega)]
            · have e : mvR a b i = i - 1 := by unfold mvR; rw [if_neg q1, if_pos (by omega)]
              rw [if_neg (nI_nlt (by omega) (by omega)), n_m1 (by omega), e_wrI _ _ _ hi (by omega), e_nm, nI_1, e])
    N 0 rm (by omega) (by omega) (fun k hk => by omega)
  exact main
theorem mvR_lt {a b n k : Nat} (hA : a < n) (hB : b < n) (hk : k < n) : mvR a b k < n := by
  unfold mvR
  split
  · exact hB
  · split
    · omega
    · split <;> omega
theorem mvR_rot {a b : Nat} (k : Nat) : mvR a b (rot a b k) = k := by
  unfold rot
  split
  · rename_i e
    unfold mvR
    rw [if_pos rfl, e]
  · split
    · unfold mvR
      rw [if_neg (by omega), if_pos (by omega)]
      omega
    · split
      · unfold mvR
        rw [if_neg (by omega), if_neg (by omega), if_pos (by omega)]
        omega
      · unfold mvR
        rw [if_neg (by omega), if_neg (by omega), if_neg (by omega)]
theorem mvR_inj {a b c d : Nat} (h : mvR a b c = mvR a b d) : c = d := by
  unfold mvR at h
  split at h <;> split at h <;> (try split at h) <;> (try split at h) <;> (try split at h) <;> (try split at h) <;> omega
theorem m_mv87 (ha : aP n z G) (hm : mP n z G p) (hN : 2000 ≤ N) {a b : Nat} (hA : a < n) (hB : b < n) {rm : Nat → Int32} (hr : ∀ k, k < 8 → rm k = nI (mvR a b k)) (wk : Nat → Int32) :
    ∃ wk' p', j_X7_moveOn_87 N rm wk p = some (rm, wk', p') ∧ mP n (mvZ z a b) (reG G (rot a b)) p' := by
  have h8 := ha.1
  obtain ⟨wk', w1, w2⟩ := m_layP wk p hN
  have hw := mP_lay ha hm w2
  have main := lp_up (fun m i (s : Nat → Int32) => lp_X7_moveOn_98 N rm wk' m (nI i) s) n (fun i s => s 0 = nI n ∧ ∀ c, c < i → nP (z c) (fun j => G (4 * c + j)) s (mvR a b c)) (fun s => s 0 = nI n ∧ ∀ c, c < n → nP (z c) (fun j => G (4 * c + j)) s (mvR a b c))
    (fun m s w => ⟨s, by
      simp only [lp_X7_moveOn_98]
      rw [rd0, w.1, if_pos (nI_le (Nat.le_refl _) (by omega))], w⟩)
    (fun m i s hi w => by
      have hR := mvR_lt hA hB hi
      refine Or.inr ⟨cpN s wk' (mvR a b i) i, ⟨by rw [cpN_0]; exact w.1, fun c hc => ?_⟩, ?_⟩
      · by_cases e : c = i
        · subst e
          exact cpN_in (nP_of hw hi) (ha.2 c hi).2.1 (by omega)
        · have hc2 := mvR_lt hA hB (show c < n by omega)
          exact cpN_out (w.2 c (by omega)) (ha.2 c (by omega)).2.1 (fun k => e (mvR_inj k)) (by omega) (by omega)
      · simp only [lp_X7_moveOn_98]
        rw [rd0, w.1, if_neg (nI_ge hi (by omega)), e_rd _ _ (by omega) (by omega), hr i (by omega), m_copy s wk' hN (by omega) (by omega), e_b1, e_nm, nI_1])
    N 0 p (by omega) (by omega) ⟨hm.1, fun c hc => by omega⟩
  obtain ⟨s, k1, k2, k3⟩ := main
  refine ⟨wk', s, ?_, k2, fun k hk => ?_⟩
  · unfold j_X7_moveOn_87
    rw [w1, e_b1, show lp_X7_moveOn_98 N rm wk' N 0 p = some s from k1, e_b1, e_u1]
  · have hrot := rot_lt hA hB hk
    have h := k3 (rot a b k) hrot
    rw [mvR_rot] at h
    have h4 := (ha.2 _ hrot).2.1
    refine ⟨h.1, fun j hj i hi => ?_⟩
    have hj : j < z (rot a b k) := hj
    rw [reG_at _ _ (by omega)]
    exact h.2 j hj i hi
theorem m_mv (ha : aP n z G) (hm : mP n z G p) (hN : 2000 ≤ N) {a b md : Nat} (hA : a < n) (hB : b < n) (hmd : md < 2) (rm wk : Nat → Int32) :
    ∃ rm' wk' p', f_X7_moveOn N rm wk p (nI a) (nI b) (nI md) = some (rm', wk', p') ∧ mP n (mvZ z a b) (mvG n z G a b md) p' := by
  have h8 := ha.1
  obtain ⟨g, g1, g2⟩ := m_mv3 rm hN (a := a) (b := b) (by omega) (by omega)
  unfold f_X7_moveOn mvG
  rw [g1, e_b1, e_u1]
  by_cases q : md = 1
  · subst q
    obtain ⟨p2, e1, e2⟩ := m_ren ha hm hN (rm := g) (ρ := mvR a b) (mvR_10 (by omega) (by omega)) (fun k hk => Or.inr (g2 k (by omega))) (fun k hk => by unfold mvR; rw [if_neg (by omega), if_neg (by omega), if_neg (by omega)])
    obtain ⟨wk', p', f1, f2⟩ := m_mv87 (gm_v ha (mvR_10 (by omega) (by omega))) e2 hN hA hB g2 wk
    refine ⟨g, wk', p', ?_, by rw [if_pos rfl]; exact f2⟩
    rw [if_neg (show ¬ ¬ nI 1 = 1 from fun k => k rfl), rd0, hm.1, e1, e_b1, f1]
  · have e0 : md = 0 := by omega
    subst e0
    obtain ⟨wk', p', f1, f2⟩ := m_mv87 ha hm hN hA hB g2 wk
    exact ⟨g, wk', p', by rw [if_pos (by decide), f1], by rw [if_neg q]; exact f2⟩
/-! the cut -/
theorem m_cu3 (rm : Nat → Int32) (hN : 2000 ≤ N) {a : Nat} (hA : a < 8) : ∃ g, lp_X7_cutOn_3 (nI a) N 0 rm = some g ∧ ∀ k, k < 8 → (k = a → g k = -9) ∧ (k ≠ a → g k = nI (if a < k then k - 1 else k)) := by
  have main := lp_up (fun m i (s : Nat → Int32) => lp_X7_cutOn_3 (nI a) m (nI i) s) 8 (fun i s => ∀ k, k < i → (k = a → s k = -9) ∧ (k ≠ a → s k = nI (if a < k then k - 1 else k))) (fun s => ∀ k, k < 8 → (k = a → s k = -9) ∧ (k ≠ a → s k = nI (if a < k then k - 1 else k)))
    (fun m s w => ⟨s, by
      simp only [lp_X7_cutOn_3]
      rw [if_pos (show (8 : Int32) ≤ nI 8 from by decide)], w⟩)
    (fun m i s hi w => by
      right
      have fin : ∀ x : Int32, ((i = a → x = -9) ∧ (i ≠ a → x = nI (if a < i then i - 1 else i))) → ∀ k, k < i + 1 → (k = a → upd s i x k = -9) ∧ (k ≠ a → upd s i x k = nI (if a < k then k - 1 else k)) := by
        intro x hx k hk
        by_cases e : k = i
        · subst e; rw [upd_s]; exact hx
        · rw [upd_n _ _ e]; exact w k (by omega)
      simp only [lp_X7_cutOn_3]
      rw [if_neg (show ¬ (8 : Int32) ≤ nI i from nI_ge (b := 8) hi (by omega))]
      by_cases q1 : a ≤ i
      · rw [if_pos (nI_le q1 (by omega))]
        by_cases q2 : i = a
        · refine ⟨upd s i (-9), fin _ ⟨fun _ => rfl, fun k => absurd q2 k⟩, ?_⟩
          rw [if_neg (fun k => k (by rw [q2])), e_wrI _ _ _ hi (by omega), e_nm, nI_1]
        · refine ⟨upd s i (nI (i - 1)), fin _ ⟨fun k => absurd k q2, fun _ => by rw [if_pos (by omega)]⟩, ?_⟩
          rw [if_pos (fun k => q2 ((nI_eq (by omega) (by omega)).mp k)), n_m1 (by omega), e_wrI _ _ _ hi (by omega), e_nm, nI_1]
      · refine ⟨upd s i (nI i), fin _ ⟨fun k => by omega, fun _ => by rw [if_neg (by omega)]⟩, ?_⟩
        rw [if_neg (nI_ge (by omega) (by omega)), e_wrI _ _ _ hi (by omega), e_nm, nI_1])
    N 0 rm (by omega) (by omega) (fun k hk => by omega)
  exact main
theorem wr0 {β : Type} (p : Nat → Int32) (x : Int32) (c : (Nat → Int32) → Option β) : pn_wrI 265 p 0 x c = c (upd p 0 x) := e_wrI (k := 0) p x c (by omega) (by omega)
theorem m_cu65 (ha : aP n z G) (hm : mP n z G p) (hN : 2000 ≤ N) {a : Nat} (hA : a < n) :
    ∃ p', lp_X7_cutOn_65 N N (nI a) p = some p' ∧ p' 0 = nI n ∧ mP (n - 1) (cuZ n z a) (reG G (rot a (n - 1))) (upd p' 0 (nI (n - 1))) := by
  have h8 := ha.1
  have main := lp_up (fun m i (s : Nat → Int32) => lp_X7_cutOn_65 N m (nI i) s) (n - 1) (fun i s => a ≤ i ∧ s 0 = nI n ∧ ∀ c, c < n → nP (z (if a ≤ c ∧ c < i then c + 1 else c)) (fun j => G (4 * (if a ≤ c ∧ c < i then c + 1 else c) + j)) s c) (fun s => s 0 = nI n ∧ ∀ c, c < n → nP (z (if a ≤ c ∧ c < n - 1 then c + 1 else c)) (fun j => G (4 * (if a ≤ c ∧ c < n - 1 then c + 1 else c) + j)) s c)
    (fun m s w => ⟨s, by
      simp only [lp_X7_cutOn_65]
      rw [rd0, w.2.1, n_m1 (by omega), if_pos (nI_le (Nat.le_refl _) (by omega))], w.2⟩)
    (fun m i s hi w => by
      refine Or.inr ⟨cpN s s i (i + 1), ⟨by omega, by rw [cpN_0]; exact w.2.1, fun c hc => ?_⟩, ?_⟩
      · by_cases e : c = i
        · subst e
          have h := w.2.2 (c + 1) (by omega)
          rw [if_neg (by omega)] at h
          rw [if_pos (by omega)]
          exact cpN_in h (ha.2 _ (by omega)).2.1 (by omega)
        · have h := w.2.2 c hc
          have ee : (if a ≤ c ∧ c < i + 1 then c + 1 else c) = (if a ≤ c ∧ c < i then c + 1 else c) := by
            by_cases q : a ≤ c ∧ c < i
            · rw [if_pos q, if_pos (by omega)]
            · rw [if_neg q, if_neg (by omega)]
          rw [ee]
          refine cpN_out h ?_ e (by omega) (by omega)
          split
          · exact (ha.2 _ (by omega)).2.1
          · exact (ha.2 _ (by omega)).2.1
      · simp only [lp_X7_cutOn_65]
        rw [rd0, w.2.1, n_m1 (by omega), if_neg (nI_ge hi (by omega)), nI_1, m_copyA s hN (by omega) (by omega) (by omega), e_b1, e_nm])
    N a p (by omega) (by omega) ⟨Nat.le_refl _, hm.1, fun c hc => by rw [if_neg (by omega)]; exact nP_of hm hc⟩
  obtain ⟨s, k1, k2, k3⟩ := main
  refine ⟨s, k1, k2, upd_s _ _ _, fun k hk => ?_⟩
  have h := k3 k (by omega)
  have er : rot a (n - 1) k = if a ≤ k ∧ k < n - 1 then k + 1 else k := by
    unfold rot
    rw [if_neg (by omega)]
    by_cases q : a ≤ k ∧ k < n - 1
    · rw [if_pos q, if_pos q]
    · rw [if_neg q, if_neg q, if_neg (by omega)]
  rw [← er] at h
  have hrot : rot a (n - 1) k < n := rot_lt hA (by omega) (by omega)
  have h4 := (ha.2 _ hrot).2.1
  refine ⟨by rw [upd_n _ _ (by omega)]; exact h.1, fun j hj i hi => ?_⟩
  have hj : j < z (rot a (n - 1) k) := hj
  rw [reG_at _ _ (by omega), upd_n _ _ (by omega)]
  exact h.2 j hj i hi
theorem m_cu (ha : aP n z G) (hm : mP n z G p) (hN : 2000 ≤ N) {a md : Nat} (hA : a < n) (hmd : md < 2) (rm : Nat → Int32) :
    ∃ rm' p', f_X7_cutOn N rm p (nI a) (nI md) = some (rm', p') ∧ mP (n - 1) (cuZ n z a) (cuG n z G a md) p' := by
  have h8 := ha.1
  obtain ⟨g, g1, g2⟩ := m_cu3 rm hN (a := a) (by omega)
  unfold f_X7_cutOn cuG
  rw [g1, e_b1, e_u1]
  by_cases q : md = 1
  · subst q
    obtain ⟨p2, e1, e2⟩ := m_ren ha hm hN (rm := g) (ρ := cuR n a) (cuR_10 n a) (fun k hk => by
      by_cases e : k = a
      · exact Or.inl ⟨(g2 k (by omega)).1 e, by unfold cuR; rw [if_neg (by omega)]⟩
      · refine Or.inr ?_
        rw [(g2 k (by omega)).2 e]
        unfold cuR
        by_cases e2 : a < k
        · rw [if_pos e2, if_pos (by omega)]
        · rw [if_neg e2, if_neg (by omega)]) (fun k hk => by unfold cuR; rw [if_neg (by omega)])
    obtain ⟨p', f1, f2, f3⟩ := m_cu65 (gm_v ha (cuR_10 n a)) e2 hN hA
    refine ⟨g, upd p' 0 (nI (n - 1)), ?_, by rw [if_pos rfl]; exact f3⟩
    rw [if_neg (show ¬ ¬ nI 1 = 1 from fun k => k rfl), rd0, hm.1, e1, e_b1, f1, e_b1, e_u1, rd0, f2, n_m1 (by omega), wr0]
  · have e0 : md = 0 := by omega
    subst e0
    obtain ⟨p', f1, f2, f3⟩ := m_cu65 ha hm hN hA
    refine ⟨g, upd p' 0 (nI (n - 1)), ?_, by rw [if_neg q]; exact f3⟩
    rw [if_pos (by decide), f1, e_b1, e_u1, rd0, f2, n_m1 (by omega), wr0]
/-! the put -/
theorem m_pu76 (rm : Nat → Int32) (hN : 2000 ≤ N) {a : Nat} (hA : a ≤ 8) : ∃ g, lp_X7_put_76 (nI a) N 0 rm = some g ∧ ∀ k, k < 8 → g k = nI (if a ≤ k then k + 1 else k) := by
  have main := lp_up (fun m i (s : Nat → Int32) => lp_X7_put_76 (nI a) m (nI i) s) 8 (fun i s => ∀ k, k < i → s k = nI (if a ≤ k then k + 1 else k)) (fun s => ∀ k, k < 8 → s k = nI (if a ≤ k then k + 1 else k))
    (fun m s w => ⟨s, by
      simp only [lp_X7_put_76]
      rw [if_pos (show (8 : Int32) ≤ nI 8 from by decide)], w⟩)
    (fun m i s hi w => by
      refine Or.inr ⟨upd s i (nI (if a ≤ i then i + 1 else i)), fun k hk => ?_, ?_⟩
      · by_cases e : k = i
        · rw [e, upd_s]
        · rw [upd_n _ _ e]; exact w k (by omega)
      · simp only [lp_X7_put_76]
        rw [if_neg (show ¬ (8 : Int32) ≤ nI i from nI_ge (b := 8) hi (by omega))]
        by_cases q1 : a ≤ i
        · rw [if_pos (nI_le q1 (by omega)), if_pos q1, nI_1, e_wrI _ _ _ hi (by omega), e_nm]
        · rw [if_neg (nI_ge (by omega) (by omega)), if_neg q1, e_wrI _ _ _ hi (by omega), e_nm, nI_1])
    N 0 rm (by omega) (by omega) (fun k hk => by omega)
  exact main
theorem m_pu132 (ha : aP n z G) (hm : mP n z G p) (hN : 2000 ≤ N) (h8 : n < 8) {a : Nat} (hA : a ≤ n) :
    ∃ p', lp_X7_put_132 N (nI a) N (nI n) p = some p' ∧ p' 0 = nI n ∧ ∀ c, c ≤ n → c ≠ a → nP (z (if a < c then c - 1 else c)) (fun j => G (4 * (if a < c then c - 1 else c) + j)) p' c := by
  have main : ∀ d M (s : Nat → Int32), a + d ≤ n → d < M → s 0 = nI n → (∀ c, c ≤ n → (c ≤ a + d → c < n → nP (z c) (fun j => G (4 * c + j)) s c) ∧ (a + d < c → nP (z (c - 1)) (fun j => G (4 * (c - 1) + j)) s c)) →
      ∃ p', lp_X7_put_132 N (nI a) M (nI (a + d)) s = some p' ∧ p' 0 = nI n ∧ ∀ c, c ≤ n → c ≠ a → nP (z (if a < c then c - 1 else c)) (fun j => G (4 * (if a < c then c - 1 else c) + j)) p' c := by
    intro d
    induction d with
    | zero =>
      intro M s _ hM h0 h
      obtain ⟨m, rfl⟩ : ∃ m, M = m + 1 := ⟨M - 1, by omega⟩
      refine ⟨s, ?_, h0, fun c hc hca => ?_⟩
      · simp only [lp_X7_put_132]
        rw [if_pos (nI_le (by omega) (by omega))]
      · by_cases q : a < c
        · rw [if_pos q]; exact (h c hc).2 (by omega)
        · rw [if_neg q]; exact (h c hc).1 (by omega) (by omega)
    | succ d ih =>
      intro M s hle hM h0 h
      obtain ⟨m, rfl⟩ : ∃ m, M = m + 1 := ⟨M - 1, by omega⟩
      obtain ⟨p', k1, k2⟩ := ih m (cpN s s (a + (d + 1)) (a + d)) (by omega) (by omega) (by rw [cpN_0]; exact h0) (fun c hc => ⟨fun c1 c2 => by
          exact cpN_out ((h c hc).1 (by omega) c2) (ha.2 c c2).2.1 (by omega) (by omega) (by omega), fun c1 => by
          by_cases e : c = a + (d + 1)
          · subst e
            have hx := (h (a + d) (by omega)).1 (by omega) (by omega)
            exact cpN_in hx (ha.2 _ (by omega)).2.1 (by omega)
          · exact cpN_out ((h c hc).2 (by omega)) (ha.2 _ (by omega)).2.1 e (by omega) (by omega)⟩)
      refine ⟨p', ?_, k2⟩
      simp only [lp_X7_put_132]
      rw [if_neg (nI_ge (by omega) (by omega)), show nI (a + (d + 1)) - 1 = nI (a + d) from nI_pred (a + d), m_copyA s hN (by omega) (by omega) (by omega), e_b1, e_nm, show nI (a + (d + 1)) + (-1 : Int32) = nI (a + d) from pk_m1 (a + d), k1]
  obtain ⟨p', k1, k2⟩ := main (n - a) N p (by omega) (by omega) hm.1 (fun c hc => ⟨fun _ c2 => nP_of hm c2, fun c1 => by omega⟩)
  rw [show a + (n - a) = n by omega] at k1
  exact ⟨p', k1, k2⟩
theorem m_pu125 (ha : aP n z G) (hm : mP n z G p) (hN : 2000 ≤ N) (h8 : n < 8) {a w : Nat} (hA : a ≤ n) (hw : 1 ≤ w ∧ w ≤ 4) {H : Nat → Nat → Nat} {rp : Nat → Int32} (hr : nP w H rp 0) (t0 pl dg : Int32) (bk rm : Nat → Int32) :
    ∃ p', j_X7_put_125 N (nI a) t0 pl dg bk p rp rm = some (nI (n + 1), t0, pl, dg, bk, p', rp, rm) ∧ mP (n + 1) (puZ n z w a) (reG (adG n G H) (rot n a)) p' := by
  obtain ⟨p1, e1, e2, e3⟩ := m_pu132 ha hm hN h8 hA
  refine ⟨upd (cpN p1 rp a 0) 0 (nI (n + 1)), ?_, upd_s _ _ _, fun k hk => ?_⟩
  · unfold j_X7_put_125
    rw [rd0, hm.1, e1, e_b1, e_u1, show f_X7_copyNote N p1 rp (nI a) 0 = _ from m_copy p1 rp hN (a := a) (b := 0) (by omega) (by omega), e_b1, rd0, cpN_0, e2, nI_1, wr0, rd0, upd_s]
  · unfold puZ reZ
    by_cases q : k = a
    · subst q
      have er : rot n k k = n := if_pos rfl
      have h := cpN_in (p := p1) (a := k) hr hw.2 (by omega)
      rw [er, zu_s]
      refine ⟨by rw [upd_n _ _ (by omega)]; exact h.1, fun j hj i hi => ?_⟩
      rw [upd_n _ _ (by omega), reG_at _ _ (by omega), er, h.2 j hj i hi]
      unfold adG
      rw [if_pos (by omega), show (4 * n + j) % 4 = j by omega]
    · have er : rot n a k = if a < k then k - 1 else k := by
        unfold rot
        rw [if_neg q, if_neg (by omega)]
        by_cases q2 : a < k
        · rw [if_pos (by omega), if_pos q2]
        · rw [if_neg (by omega), if_neg q2]
      have hlt : (if a < k then k - 1 else k) < n := by split <;> omega
      have h4 := (ha.2 _ hlt).2.1
      have h := cpN_out (q := rp) (a := a) (b := 0) (e3 k (by omega) q) h4 q (by omega) (by omega)
      rw [er, zu_n _ (by omega)]
      refine ⟨by rw [upd_n _ _ (by omega)]; exact h.1, fun j hj i hi => ?_⟩
      rw [upd_n _ _ (by omega), reG_at _ _ (by omega), er, h.2 j hj i hi]
      unfold adG
      rw [if_neg (show ¬ (4 * (if a < k then k - 1 else k) + j) / 4 = n by omega)]
end
