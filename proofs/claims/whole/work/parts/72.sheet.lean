/-! the paper as a text: slot by slot; the call print -/
section
variable {n : Nat} {z : Nat → Nat} {G : Nat → Nat → Nat} {p sz : Nat → Int32} {ci : Nat → Int64} {L N : Nat} {ver lv sv pr cs0 ct av dd fl c1 c0 l0 : Int32} {ca fs fb mb nb ra lk cf fi rn cf0 fi0 lb0 rn0 bf : Nat → Int32}
def wU (n : Nat) (z : Nat → Nat) (B : Nat → Nat → Nat) (r : Nat) (s : WS) : WS := if th n z r = true then wC (if r = 0 then s else wS s (if 0 < r % 4 then 44 else 59)) (B r) else s
def wL (n : Nat) (z : Nat → Nat) (B : Nat → Nat → Nat) (s : WS) : Nat → WS
  | 0 => s
  | r + 1 => wU n z B r (wL n z B s r)
theorem wL_s (n : Nat) (z : Nat → Nat) (B : Nat → Nat → Nat) (s : WS) (r : Nat) : wL n z B s (r + 1) = wU n z B r (wL n z B s r) := rfl
theorem wP_1 (s : WS) (v : Nat) : (wP s v).1 = s.1 + 2 := rfl
theorem wR_1 (s : WS) (v : Nat) : (wR s v).1 = s.1 + 4 := rfl
theorem wE_1 (s : WS) (F : Nat → Nat) : (wE s F).1 ≤ s.1 + 3 := by
  unfold wE
  split
  · omega
  · show s.1 + 1 + 2 ≤ _; omega
theorem wC_1 (s : WS) (F : Nat → Nat) : (wC s F).1 ≤ s.1 + 14 := by
  unfold wC
  refine Nat.le_trans (wE_1 _ _) ?_
  split
  · split
    · show s.1 + 1 + 1 + 4 + 3 ≤ _; omega
    · show s.1 + 1 + 1 + 4 + 1 + 4 + 3 ≤ _; omega
  · split
    · show s.1 + 1 + 3 ≤ _; omega
    · split
      · show s.1 + 1 + 3 ≤ _; omega
      · show s.1 + 1 + 1 + 1 + 3 ≤ _; omega
theorem wU_1 (B : Nat → Nat → Nat) (r : Nat) (s : WS) : (wU n z B r s).1 ≤ s.1 + 15 := by
  unfold wU
  split
  · refine Nat.le_trans (wC_1 _ _) ?_
    split
    · omega
    · show s.1 + 1 + 14 ≤ _; omega
  · omega
theorem wL_1 (B : Nat → Nat → Nat) (f : Nat → Int32) : ∀ r, (wL n z B (0, f) r).1 ≤ 15 * r
  | 0 => Nat.le_refl _
  | r + 1 => by
    have := wL_1 B f r
    have := wU_1 (n := n) (z := z) B r (wL n z B (0, f) r)
    rw [wL_s]
    omega
/-- two texts alike -/
def ag (s t : WS) : Prop := s.1 = t.1 ∧ ∀ j, j < s.1 → s.2 j = t.2 j
theorem ag_S {s t : WS} (h : ag s t) (x : Int32) : ag (wS s x) (wS t x) := by
  refine ⟨by show s.1 + 1 = t.1 + 1; rw [h.1], fun j hj => ?_⟩
  have hj : j < s.1 + 1 := hj
  show upd s.2 s.1 x j = upd t.2 t.1 x j
  rw [← h.1]
  by_cases e : j = s.1
  · rw [e, upd_s, upd_s]
  · rw [upd_n _ _ e, upd_n _ _ e]; exact h.2 j (by omega)
theorem ag_P {s t : WS} (h : ag s t) (v : Nat) : ag (wP s v) (wP t v) := ag_S (ag_S h _) _
theorem ag_R {s t : WS} (h : ag s t) (v : Nat) : ag (wR s v) (wR t v) := ag_P (ag_S (ag_S h _) _) _
theorem ag_E {s t : WS} (h : ag s t) (F : Nat → Nat) : ag (wE s F) (wE t F) := by
  unfold wE
  split
  · exact h
  · exact ag_P (ag_S h _) _
theorem ag_C {s t : WS} (h : ag s t) (F : Nat → Nat) : ag (wC s F) (wC t F) := by
  unfold wC
  refine ag_E ?_ F
  split
  · split
    · exact ag_R (ag_S (ag_S h _) _) _
    · exact ag_R (ag_S (ag_R (ag_S (ag_S h _) _) _) _) _
  · split
    · exact ag_S h _
    · split
      · exact ag_S h _
      · exact ag_S (ag_S (ag_S h _) _) _
theorem ag_L {s t : WS} (h : ag s t) (B : Nat → Nat → Nat) : ∀ r, ag (wL n z B s r) (wL n z B t r)
  | 0 => h
  | r + 1 => by
    rw [wL_s, wL_s]
    unfold wU
    have ih := ag_L h B r
    split
    · refine ag_C ?_ _
      split
      · exact ih
      · exact ag_S ih _
    · exact ih
/-- what is printed of slot r -/
noncomputable def hB (n : Nat) (z : Nat → Nat) (G : Nat → Nat → Nat) (hw : Nat) (r : Nat) : Nat → Nat := if hw = 0 then G r else shB n z G r
theorem hB_v (ha : aP n z G) (hw : Nat) {r : Nat} (h : th n z r = true) : vF (hB n z G hw r) := by
  unfold hB
  split
  · exact th_v ha h
  · exact shB_v ha h
theorem x_73 (ha : aP n z G) (hc : cP n z G (nI n) sz ci) (hfl : ∀ b, b < 32 → bt fl b = fu n z G b) (h : dF n z G cs0 av dd ca fs fb mb nb ra) (hN : 2000 ≤ N) {a j hw : Nat} (hh : hw < 2) (hth : th n z (4 * a + j) = true) (rc : Int32 → Int32 → (Nat → Int32) → Option (Int32 × (Nat → Int32))) {s : WS} (hs : s.1 + 14 ≤ 512) :
    j_X6_fillSheet_73 rc (nI a) fl cs0 ca fs fb nb N (nI n) ci sz (nI hw) (nI j) (nI s.1) s.2 = rc (nI (j + 1)) (nI (wC s (hB n z G hw (4 * a + j))).1) (wC s (hB n z G hw (4 * a + j))).2 := by
  have r32 := th_lt hth ha.1
  unfold j_X6_fillSheet_73 hB
  rw [x_slot, e_b1]
  by_cases q : hw = 0
  · rw [if_neg (fun w => w (by rw [q]; rfl)), if_pos q, x_cite r32, e_b1, cP_c hc hth, x_ac hs (th_v ha hth), e_b2, e_nm, nI_1]
  · rw [if_pos (nI_ne0 (by omega) (by omega)), if_neg q, x_shB ha hc hfl h hN hth, e_b1, x_ac hs (shB_v ha hth), e_b2, e_nm, nI_1]
theorem th_at {a j : Nat} (hA : a < n) (hj : j < z a) (hz : z a ≤ 4) : th n z (4 * a + j) = true := by
  unfold th
  rw [show (4 * a + j) / 4 = a by omega, show (4 * a + j) % 4 = j by omega]
  simp [hA, hj]
theorem wL_gap (B : Nat → Nat → Nat) (s : WS) {i : Nat} : ∀ k, (∀ q, i ≤ q → q < i + k → th n z q = false) → wL n z B s (i + k) = wL n z B s i
  | 0, _ => rfl
  | k + 1, h => by
    rw [show i + (k + 1) = (i + k) + 1 from rfl, wL_s, wL_gap B s k (fun q h1 h2 => h q h1 (by omega))]
    unfold wU
    rw [h (i + k) (by omega) (by omega), if_neg (by decide)]
theorem wL_note (ha : aP n z G) (B : Nat → Nat → Nat) (s : WS) {a : Nat} (hA : a < n) : wL n z B s (4 * a + z a) = wL n z B s (4 * (a + 1)) := by
  have hz := (ha.2 a hA).2.1
  rw [show 4 * (a + 1) = (4 * a + z a) + (4 - z a) by omega]
  refine (wL_gap B s (4 - z a) (fun q h1 h2 => ?_)).symm
  unfold th
  rw [show q / 4 = a by omega]
  simp
  omega
theorem x_45 (ha : aP n z G) (hc : cP n z G (nI n) sz ci) (hfl : ∀ b, b < 32 → bt fl b = fu n z G b) (h : dF n z G cs0 av dd ca fs fb mb nb ra) (hN : 2000 ≤ N) {a hw : Nat} (hh : hw < 2) (hA : a < n) (f : Nat → Int32) {M : Nat} (hM : 10 ≤ M) (s : WS) (hs : s = if a = 0 then (0, f) else wS (wL n z (hB n z G hw) (0, f) (4 * a)) 59) :
    lp_X6_fillSheet_45 N (nI n) ci sz (nI hw) (nI a) fl cs0 ca fs fb nb M 0 (nI s.1) s.2 = some (nI (wL n z (hB n z G hw) (0, f) (4 * (a + 1))).1, (wL n z (hB n z G hw) (0, f) (4 * (a + 1))).2) := by
  have h8 := ha.1
  have hz := (ha.2 a hA).2.1
  have hz1 := (ha.2 a hA).1
  have hsz := (hc.2 a hA).1
  have b0 := wL_1 (n := n) (z := z) (hB n z G hw) f (4 * a)
  have hs1 : s.1 + 14 ≤ 512 := by
    rw [hs]
    split
    · show 0 + 14 ≤ 512; omega
    · show _ + 1 + 14 ≤ 512; omega
  have t0 : th n z (4 * a + 0) = true := th_at hA (by omega) hz
  have e1 : wC s (hB n z G hw (4 * a + 0)) = wL n z (hB n z G hw) (0, f) (4 * a + 1) := by
    rw [wL_s]
    unfold wU
    rw [if_pos (show th n z (4 * a) = true from t0), hs]
    by_cases q : a = 0
    · subst q; rfl
    · rw [if_neg q, if_neg (show ¬ 4 * a = 0 by omega), if_neg (show ¬ 0 < 4 * a % 4 by omega)]; rfl
  obtain ⟨m, rfl⟩ : ∃ m, M = m + 1 := ⟨M - 1, by omega⟩
  have main := lp_up (fun m' i (t : Int32 × (Nat → Int32)) => lp_X6_fillSheet_45 N (nI n) ci sz (nI hw) (nI a) fl cs0 ca fs fb nb m' (nI i) t.1 t.2) (z a) (fun i t => 1 ≤ i ∧ t = (nI (wL n z (hB n z G hw) (0, f) (4 * a + i)).1, (wL n z (hB n z G hw) (0, f) (4 * a + i)).2)) (fun t => t = (nI (wL n z (hB n z G hw) (0, f) (4 * a + z a)).1, (wL n z (hB n z G hw) (0, f) (4 * a + z a)).2))
    (fun m' t w => ⟨t, by
      simp only [lp_X6_fillSheet_45]
      rw [x_size hA h8, e_b1, hsz, if_pos (nI_le (Nat.le_refl _) (by omega))], w.2⟩)
    (fun m' i t hi w => by
      have b1 := wL_1 (n := n) (z := z) (hB n z G hw) f (4 * a + i)
      have ti : th n z (4 * a + i) = true := th_at hA hi hz
      refine Or.inr ⟨(nI (wL n z (hB n z G hw) (0, f) (4 * a + (i + 1))).1, (wL n z (hB n z G hw) (0, f) (4 * a + (i + 1))).2), ⟨by omega, rfl⟩, ?_⟩
      simp only [lp_X6_fillSheet_45]
      rw [x_size hA h8, e_b1, hsz, if_neg (nI_ge hi (by omega)), if_neg (nI_nle (by omega) (by omega)), w.2]
      simp only
      rw [x_as (by omega), e_b2, x_73 ha hc hfl h hN hh ti _ (by show _ + 1 + 14 ≤ 512; omega)]
      have e2 : wC (wS (wL n z (hB n z G hw) (0, f) (4 * a + i)) 44) (hB n z G hw (4 * a + i)) = wL n z (hB n z G hw) (0, f) (4 * a + (i + 1)) := by
        rw [show 4 * a + (i + 1) = (4 * a + i) + 1 from rfl, wL_s]
        unfold wU
        rw [if_pos ti, if_neg (show ¬ 4 * a + i = 0 by omega), if_pos (show 0 < (4 * a + i) % 4 by omega)]
      rw [e2])
    m 1 (nI (wL n z (hB n z G hw) (0, f) (4 * a + 1)).1, (wL n z (hB n z G hw) (0, f) (4 * a + 1)).2) (by omega) (by omega) ⟨Nat.le_refl _, rfl⟩
  obtain ⟨t, k1, k2⟩ := main
  simp only [lp_X6_fillSheet_45]
  rw [x_size hA h8, e_b1, hsz, if_neg (show ¬ nI (z a) ≤ 0 from nI_nle (by omega) (by omega)), if_pos (show (0 : Int32) ≤ 0 by decide), show (0 : Int32) = nI 0 from rfl, x_73 ha hc hfl h hN hh t0 _ hs1, e1]
  rw [show lp_X6_fillSheet_45 N (nI n) ci sz (nI hw) (nI a) fl cs0 ca fs fb nb m (nI (0 + 1)) (nI (wL n z (hB n z G hw) (0, f) (4 * a + 1)).1) (wL n z (hB n z G hw) (0, f) (4 * a + 1)).2 = some t from k1, k2, wL_note ha _ _ hA]
theorem x_16 (ha : aP n z G) (hc : cP n z G (nI n) sz ci) (hfl : ∀ b, b < 32 → bt fl b = fu n z G b) (h : dF n z G cs0 av dd ca fs fb mb nb ra) (hN : 2000 ≤ N) {hw : Nat} (hh : hw < 2) (f : Nat → Int32) :
    lp_X6_fillSheet_16 N (nI n) ci sz (nI hw) fl cs0 ca fs fb nb N 0 0 f = some (nI (wL n z (hB n z G hw) (0, f) 32).1, (wL n z (hB n z G hw) (0, f) 32).2) := by
  have h8 := ha.1
  have main := lp_up (fun m' i (t : Int32 × (Nat → Int32)) => lp_X6_fillSheet_16 N (nI n) ci sz (nI hw) fl cs0 ca fs fb nb m' (nI i) t.1 t.2) n (fun i t => t = (nI (wL n z (hB n z G hw) (0, f) (4 * i)).1, (wL n z (hB n z G hw) (0, f) (4 * i)).2)) (fun t => t = (nI (wL n z (hB n z G hw) (0, f) (4 * n)).1, (wL n z (hB n z G hw) (0, f) (4 * n)).2))
    (fun m' t w => ⟨t, by
      simp only [lp_X6_fillSheet_16]
      rw [show f_X1_notes (nI n) = some (nI n) from rfl, e_b1, if_pos (nI_le (Nat.le_refl _) (by omega))], w⟩)
    (fun m' i t hi w => by
      have b1 := wL_1 (n := n) (z := z) (hB n z G hw) f (4 * i)
      refine Or.inr ⟨(nI (wL n z (hB n z G hw) (0, f) (4 * (i + 1))).1, (wL n z (hB n z G hw) (0, f) (4 * (i + 1))).2), rfl, ?_⟩
      simp only [lp_X6_fillSheet_16]
      rw [show f_X1_notes (nI n) = some (nI n) from rfl, e_b1, if_neg (nI_ge hi (by omega)), w]
      simp only
      by_cases q : i = 0
      · subst q
        rw [if_pos (show nI 0 ≤ 0 by decide)]
        have e := x_45 ha hc hfl h hN hh hi f (M := N) (by omega) (0, f) (by rw [if_pos rfl])
        rw [show lp_X6_fillSheet_45 N (nI n) ci sz (nI hw) (nI 0) fl cs0 ca fs fb nb N 0 (nI (wL n z (hB n z G hw) (0, f) (4 * 0)).1) (wL n z (hB n z G hw) (0, f) (4 * 0)).2 = _ from e, e_b1, e_u2, e_nm, nI_1]
      · have e := x_45 ha hc hfl h hN hh hi f (M := N) (by omega) (wS (wL n z (hB n z G hw) (0, f) (4 * i)) 59) (by rw [if_neg q])
        rw [if_neg (nI_nle (by omega) (by omega)), x_as (by omega), e_b2, e, e_b1, e_u2, e_nm, nI_1])
    N 0 (0, f) (by omega) (by omega) rfl
  obtain ⟨t, k1, k2⟩ := main
  have e : wL n z (hB n z G hw) (0, f) 32 = wL n z (hB n z G hw) (0, f) (4 * n) := by
    rw [show 32 = 4 * n + (32 - 4 * n) by omega]
    refine wL_gap _ _ _ (fun q h1 h2 => ?_)
    unfold th
    simp
    omega
  rw [show lp_X6_fillSheet_16 N (nI n) ci sz (nI hw) fl cs0 ca fs fb nb N 0 0 f = some t from k1, k2, e]
theorem m_tp2 (ha : aP n z G) (hm : mP n z G p) (hN : 2000 ≤ N) {r : Nat} (h : th n z r = true) : ∃ g, lp_X7_layPrinted_77 p (nI r) N 0 bf = some g ∧ ∀ i, i < 8 → g i = nI (G r i) := by
  have main := lp_up (fun m i (s : Nat → Int32) => lp_X7_layPrinted_77 p (nI r) m (nI i) s) 8 (fun i s => ∀ j, j < i → s j = nI (G r j)) (fun s => ∀ j, j < 8 → s j = nI (G r j))
    (fun m s q => ⟨s, by
      simp only [lp_X7_layPrinted_77]
      rw [if_pos (show (8 : Int32) ≤ nI 8 from by decide)], q⟩)
    (fun m i s hi q => by
      refine Or.inr ⟨upd s i (nI (G r i)), fun j hj => ?_, ?_⟩
      · by_cases e : j = i
        · subst e; exact upd_s _ _ _
        · rw [upd_n _ _ e]; exact q j (by omega)
      · simp only [lp_X7_layPrinted_77]
        rw [if_neg (show ¬ (8 : Int32) ≤ nI i from nI_ge (b := 8) hi (by omega)), m_refT ha hm h hi, e_b1, e_wrI _ _ _ hi (by omega), e_nm, nI_1])
    N 0 bf (by omega) (by omega) (fun j hj => by omega)
  exact main
theorem m_58 (ha : aP n z G) (hm : mP n z G p) (h : mF n z G c1 cf fi rn) (hN : 2000 ≤ N) {r hw : Nat} (hh : hw < 2) (hth : th n z r = true) (rc : Int32 → Int32 → Int32 → (Nat → Int32) → (Nat → Int32) → Option (Int32 × Int32 × (Nat → Int32) × (Nat → Int32))) {s : WS} (hs : s.1 + 14 ≤ 480) (lr : Int32) (bf : Nat → Int32) :
    ∃ lr' bf', j_X7_layPrinted_58 rc c1 cf fi N p (nI hw) (nI r) (nI s.1) lr bf s.2 = rc (nI (r + 1)) (nI (wC s (hB n z G hw r)).1) lr' bf' (wC s (hB n z G hw r)).2 := by
  unfold j_X7_layPrinted_58 hB
  by_cases q : hw = 0
  · subst q
    obtain ⟨g, g1, g2⟩ := m_tp2 (bf := bf) ha hm hN hth
    refine ⟨lr, g, ?_⟩
    rw [if_pos (by decide), if_pos rfl, g1, e_b1, e_u1, m_ac hs (th_v ha hth) g2, e_b2, e_nm, nI_1]
  · have : hw = 1 := by omega
    subst this
    obtain ⟨lr', g, g1, g2⟩ := m_shB (bf := bf) ha hm h hN hth lr
    refine ⟨lr', g, ?_⟩
    rw [if_neg (show ¬ ¬ nI 1 = 1 from fun w => w rfl), if_neg q, g1, e_b2, m_ac hs (shB_v ha hth) g2, e_b2, e_nm, nI_1]
theorem m_15 (ha : aP n z G) (hm : mP n z G p) (h : mF n z G c1 cf fi rn) (hN : 2000 ≤ N) {hw : Nat} (hh : hw < 2) (f : Nat → Int32) (lr : Int32) (bf : Nat → Int32) :
    ∃ lr' bf', lp_X7_layPrinted_15 N p (nI hw) c1 cf fi N 0 0 lr bf f = some (nI (wL n z (hB n z G hw) (0, f) 32).1, lr', bf', (wL n z (hB n z G hw) (0, f) 32).2) := by
  have main := lp_up (fun m' i (t : Int32 × Int32 × (Nat → Int32) × (Nat → Int32)) => lp_X7_layPrinted_15 N p (nI hw) c1 cf fi m' (nI i) t.1 t.2.1 t.2.2.1 t.2.2.2) 32 (fun i t => t.1 = nI (wL n z (hB n z G hw) (0, f) i).1 ∧ t.2.2.2 = (wL n z (hB n z G hw) (0, f) i).2) (fun t => t.1 = nI (wL n z (hB n z G hw) (0, f) 32).1 ∧ t.2.2.2 = (wL n z (hB n z G hw) (0, f) 32).2)
    (fun m' t w => ⟨t, by
      simp only [lp_X7_layPrinted_15]
      rw [if_pos (show (32 : Int32) ≤ nI 32 from by decide)], w⟩)
    (fun m' i t hi w => by
      right
      have b1 := wL_1 (n := n) (z := z) (hB n z G hw) f i
      have e4 : nI i - nI (i / 4) * 4 = nI (i % 4) := by rw [← div4 i (by omega)]; exact mod4 i (by omega)
      simp only [lp_X7_layPrinted_15]
      rw [if_neg (show ¬ (32 : Int32) ≤ nI i from nI_ge (b := 32) hi (by omega)), div4 i (by omega), e4, m_there ha hm (by omega), e_b1, w.1, w.2]
      cases ht : th n z i with
      | false =>
        refine ⟨(nI (wL n z (hB n z G hw) (0, f) i).1, t.2.1, t.2.2.1, (wL n z (hB n z G hw) (0, f) i).2), ?_, by rw [if_pos (by decide), e_nm, nI_1]⟩
        rw [wL_s]
        unfold wU
        rw [if_neg (by rw [ht]; decide)]
        exact ⟨rfl, rfl⟩
      | true =>
        rw [if_neg (by decide)]
        by_cases q : i = 0
        · subst q
          obtain ⟨lr', bf', e⟩ := m_58 ha hm h hN hh ht (lp_X7_layPrinted_15 N p (nI hw) c1 cf fi m') (s := (0, f)) (by show 0 + 14 ≤ 480; omega) t.2.1 t.2.2.1
          refine ⟨(nI (wC (0, f) (hB n z G hw 0)).1, lr', bf', (wC (0, f) (hB n z G hw 0)).2), ?_, ?_⟩
          · rw [wL_s]
            unfold wU
            rw [if_pos ht, if_pos rfl]
            exact ⟨rfl, rfl⟩
          · rw [if_pos (show nI 0 ≤ 0 by decide)]
            exact e
        · rw [if_neg (nI_nle (by omega) (by omega))]
          by_cases q4 : 0 < i % 4
          · obtain ⟨lr', bf', e⟩ := m_58 ha hm h hN hh ht (lp_X7_layPrinted_15 N p (nI hw) c1 cf fi m') (s := wS (wL n z (hB n z G hw) (0, f) i) 44) (by show _ + 1 + 14 ≤ 480; omega) t.2.1 t.2.2.1
            refine ⟨(nI (wC (wS (wL n z (hB n z G hw) (0, f) i) 44) (hB n z G hw i)).1, lr', bf', (wC (wS (wL n z (hB n z G hw) (0, f) i) 44) (hB n z G hw i)).2), ?_, ?_⟩
            · rw [wL_s]
              unfold wU
              rw [if_pos ht, if_neg q, if_pos q4]
              exact ⟨rfl, rfl⟩
            · rw [if_neg (nI_nle q4 (by omega)), m_as (by omega), e_b2]
              exact e
          · obtain ⟨lr', bf', e⟩ := m_58 ha hm h hN hh ht (lp_X7_layPrinted_15 N p (nI hw) c1 cf fi m') (s := wS (wL n z (hB n z G hw) (0, f) i) 59) (by show _ + 1 + 14 ≤ 480; omega) t.2.1 t.2.2.1
            refine ⟨(nI (wC (wS (wL n z (hB n z G hw) (0, f) i) 59) (hB n z G hw i)).1, lr', bf', (wC (wS (wL n z (hB n z G hw) (0, f) i) 59) (hB n z G hw i)).2), ?_, ?_⟩
            · rw [wL_s]
              unfold wU
              rw [if_pos ht, if_neg q, if_neg q4]
              exact ⟨rfl, rfl⟩
            · rw [if_pos (show nI (i % 4) ≤ 0 from by rw [show i % 4 = 0 by omega]; decide), m_as (by omega), e_b2]
              exact e)
    N 0 (0, lr, bf, f) (by omega) (by omega) ⟨rfl, rfl⟩
  obtain ⟨t, k1, k2, k3⟩ := main
  refine ⟨t.2.1, t.2.2.1, ?_⟩
  rw [show lp_X7_layPrinted_15 N p (nI hw) c1 cf fi N 0 0 lr bf f = some t from k1, ← k2, ← k3]
theorem s_print (ha : aP n z G) (hc : cP n z G (nI n) sz ci) (hm : mP n z G p) (hN : 2000 ≤ N) (h : sK n z G ver (lv, sv, pr, fl, cs0, ct, av, dd, ca, fs, fb, lk, mb, nb, ra)) (t0 ps sl p1 p2 : Int32) (sg pd : Nat → Int32) :
    ∃ a lv' sv' pr' fl' cs' ct' av' dd' ca' fs' fb' lk' mb' nb' ra' sl' sg' m', f_X6_print N lv sv pr fl cs0 ct av dd ca fs fb lk mb nb (nI n) ver ci sz ra sl sg p1 p2 = some (a, lv', sv', pr', fl', cs', ct', av', dd', ca', fs', fb', lk', mb', nb', ra', sl', sg') ∧ sK n z G ver (lv', sv', pr', fl', cs', ct', av', dd', ca', fs', fb', lk', mb', nb', ra') ∧ ((lv' = lv ∧ sv' = sv) ∨ (lv' = ver ∧ sv' = ver)) ∧ f_X7_print N t0 c0 ps l0 bf cf0 fi0 lb0 p pd rn0 p1 p2 = some (a, m') := by
  have eA : ∀ w : ¬ (p1 = 0 ∨ p1 = 1), p1 < 0 ∨ (¬ p1 < 0 ∧ (1 : Int32) < p1) := by
    intro w
    rw [i_eq, i_eq] at w
    rw [i_lt, i_lt]
    have e0 : (0 : Int32).toInt = 0 := by decide
    have e1 : (1 : Int32).toInt = 1 := by decide
    omega
  unfold f_X6_print f_X7_print
  by_cases w : p1 = 0 ∨ p1 = 1
  · obtain ⟨hw, hh, rfl⟩ : ∃ hw, hw < 2 ∧ p1 = nI hw := by
      rcases w with rfl | rfl
      · exact ⟨0, by omega, rfl⟩
      · exact ⟨1, by omega, rfl⟩
    rw [(x_in01 _).1 w, e_b1, if_neg (show ¬ (1 : Int32) = 0 by decide), if_neg (nI_pos (by omega)), if_neg (show ¬ (1 : Int32) < nI hw from nI_nlt (b := hw) (a := 1) (by omega) (by omega))]
    by_cases q : (-1 : Int32) ≤ p2
    · obtain ⟨pr2, fl2, cs2, ct2, av2, dd2, ca2, fs2, fb2, lk2, mb2, nb2, ra2, e1, e2, e3⟩ := x_studyF ha hc hN h
      obtain ⟨c1, l1, cf, fi, lb, rn, f1, f2⟩ := m_FA ha hm hN c0 l0 cf0 fi0 lb0 rn0
      obtain ⟨lr', bf', g1⟩ := m_15 ha hm f2 hN hh pd l1 bf
      have hag := ag_L (n := n) (z := z) (s := (0, sg)) (t := (0, pd)) ⟨rfl, fun j hj => absurd hj (Nat.not_lt_zero j)⟩ (hB n z G hw) 32
      have b1 := wL_1 (n := n) (z := z) (hB n z G hw) sg 32
      have b2 := wL_1 (n := n) (z := z) (hB n z G hw) pd 32
      rw [if_pos q, if_pos q]
      unfold f_X6_fillSheet f_X7_layPrinted
      rw [e1, e_b15, show f_X2_clear sl = some 0 from rfl, e_b1, x_16 ha hc e2.1 e3 hN hh sg, e_b1, e_u2, e_b17, f1, e_b6, g1, e_b1, e_u4, e_b9]
      by_cases q1 : p2 = -1
      · rw [if_neg (fun k => k q1), if_neg (fun k => k q1), show f_X2_length (nI (wL n z (hB n z G hw) (0, sg) 32).1) = some (nI (wL n z (hB n z G hw) (0, sg) 32).1) from rfl, e_b1, hag.1]
        exact ⟨_, _, _, _, _, _, _, _, _, _, _, _, _, _, _, _, _, _, _, rfl, sK_st e2 e3, Or.inr ⟨rfl, rfl⟩, rfl⟩
      · have q0 : ¬ p2 < 0 := by
          rw [i_le] at q
          rw [i_eq] at q1
          rw [i_lt]
          have e0 : (0 : Int32).toInt = 0 := by decide
          have e1 : (-1 : Int32).toInt = -1 := by decide
          omega
        obtain ⟨k, hk, rfl⟩ := nI_of q0
        rw [if_pos q1, if_pos q1]
        unfold f_X2_signAt
        rw [if_neg q0]
        by_cases q2 : k < (wL n z (hB n z G hw) (0, sg) 32).1
        · have q3 : k < (wL n z (hB n z G hw) (0, pd) 32).1 := by rw [← hag.1]; exact q2
          rw [if_neg (nI_ge q2 (by omega)), e_rd _ _ (by omega) (by omega), e_b1, if_neg (nI_ge q3 (by omega)), e_rd _ _ (by omega) (by omega), hag.2 k q2]
          exact ⟨_, _, _, _, _, _, _, _, _, _, _, _, _, _, _, _, _, _, _, rfl, sK_st e2 e3, Or.inr ⟨rfl, rfl⟩, rfl⟩
        · have q3 : ¬ k < (wL n z (hB n z G hw) (0, pd) 32).1 := by rw [← hag.1]; exact q2
          rw [if_pos (nI_le (by omega) hk), e_b1, if_pos (nI_le (by omega) hk)]
          exact ⟨_, _, _, _, _, _, _, _, _, _, _, _, _, _, _, _, _, _, _, rfl, sK_st e2 e3, Or.inr ⟨rfl, rfl⟩, rfl⟩
    · rw [if_neg q, if_neg q]
      exact ⟨_, _, _, _, _, _, _, _, _, _, _, _, _, _, _, _, _, _, _, rfl, h, Or.inl ⟨rfl, rfl⟩, rfl⟩
  · rw [(x_in01 _).2 w, e_b1, if_pos rfl]
    rcases eA w with k | ⟨k, k2⟩
    · rw [if_pos k]
      exact ⟨_, _, _, _, _, _, _, _, _, _, _, _, _, _, _, _, _, _, _, rfl, h, Or.inl ⟨rfl, rfl⟩, rfl⟩
    · rw [if_neg k, if_pos k2]
      exact ⟨_, _, _, _, _, _, _, _, _, _, _, _, _, _, _, _, _, _, _, rfl, h, Or.inl ⟨rfl, rfl⟩, rfl⟩
end
