/-! the class studies a paper: note by note -/
theorem fb_ct_gap {p : Nat → Bool} {i : Nat} : ∀ k, (∀ q, i ≤ q → q < i + k → p q = false) → fb_ct p (i + k) = fb_ct p i
  | 0, _ => rfl
  | k + 1, h => by
    rw [show i + (k + 1) = (i + k) + 1 from rfl, fb_ct_succ, h (i + k) (by omega) (by omega), fb_ct_gap k (fun q h1 h2 => h q h1 (by omega))]
    rfl
theorem fndU_gap {n : Nat} {z : Nat → Nat} {L : Nat} {F : Nat → Option Nat} {a c j : Nat} : ∀ k, (∀ i, j ≤ i → i < j + k → lf n z L (4 * a + i) = false) → fndU n z L F a c (j + k) = fndU n z L F a c j
  | 0, _ => rfl
  | k + 1, h => by
    rw [show j + (k + 1) = (j + k) + 1 from rfl, fndU_s, h (j + k) (by omega) (by omega), fndU_gap k (fun q h1 h2 => h q h1 (by omega))]
    simp
theorem dR_gap {n : Nat} {z : Nat → Nat} {G : Nat → Nat → Nat} {L : Nat} {lab : Nat → Nat} {F : Nat → Option Nat} {Rn : Nat → Nat} {a j : Nat} (hj : j ≤ 4) {ct av dd : Int32} {ca fb ra : Nat → Int32} (hg : ∀ i, j ≤ i → i < 4 → lf n z L (4 * a + i) = false) (h : dR n z G L lab F Rn a j ct av dd ca fb ra) :
    dR n z G L lab F Rn (a + 1) 0 ct av dd ca fb ra := by
  have hq : ∀ q, 4 * a + j ≤ q → q < 4 * (a + 1) + 0 → lf n z L q = false := by
    intro q h1 h2
    have := hg (q - 4 * a) (by omega) (by omega)
    rw [show 4 * a + (q - 4 * a) = q by omega] at this
    exact this
  obtain ⟨h1, h2, h3, h4, h5, h6⟩ := h
  refine ⟨fun q hq' hl => ?_, fun b hb hge hs => h2 b hb (by omega) hs, fun t c ht hc => ?_, fun c hc => ?_, ?_, ?_⟩
  · by_cases e : q < 4 * a + j
    · exact h1 q e hl
    · rw [hq q (by omega) hq'] at hl; cases hl
  · rw [h3 t c ht hc]
    by_cases e : t < a
    · rw [if_pos e, if_pos (by omega)]
    · rw [if_neg e]
      by_cases e2 : t = a
      · subst e2
        rw [if_pos rfl, if_pos (by omega)]
        have := fndU_gap (n := n) (z := z) (L := L) (F := F) (a := t) (c := c) (j := j) (4 - j) (fun i w1 w2 => hg i w1 (by omega))
        rw [show j + (4 - j) = 4 by omega] at this
        exact this.symm
      · rw [if_neg e2, if_neg (by omega)]
        by_cases e3 : t = a + 1
        · rw [if_pos e3]
        · rw [if_neg e3]
  · rw [h4 c hc]
    by_cases e : c < fb_ct (fx n z G L lab) 32
    · obtain ⟨k1, k2, k3⟩ := kth_ok e
      have hl := sp_lf (fx_sp k2)
      have : kth (fx n z G L lab) c < 4 * a + j ↔ kth (fx n z G L lab) c < 4 * (a + 1) + 0 := by
        refine ⟨fun w => by omega, fun w => ?_⟩
        rcases Nat.lt_or_ge (kth (fx n z G L lab) c) (4 * a + j) with q | q
        · exact q
        · rw [hq _ q w] at hl; cases hl
      rw [decide_eq_decide.mpr this]
    · simp [e]
  · rw [h5, show 4 * (a + 1) + 0 = (4 * a + j) + (4 - j) by omega, fb_ct_gap (4 - j) (fun q w1 w2 => by rw [hq q w1 (by omega)]; rfl)]
  · rw [h6, show 4 * (a + 1) + 0 = (4 * a + j) + (4 - j) by omega, fb_ct_gap (4 - j) (fun q w1 w2 => by rw [hq q w1 (by omega)]; rfl)]
theorem x_sp96 {n : Nat} {z : Nat → Nat} {G : Nat → Nat → Nat} (ha : aP n z G) {sz : Nat → Int32} {ci : Nat → Int64} (hc : cP n z G (nI n) sz ci) {L N : Nat} (hN : 2000 ≤ N) {lab : Nat → Nat} (hlb : LB (sp n z G L) (mt G) lab) {F : Nat → Option Nat} {Rn : Nat → Nat} (hRS : RS n z G L lab F Rn) (hF : ∀ q c, F q = some c → c < 32) {c1 : Int32} {ca0 fs mb nb : Nat → Int32} (hdC : dC n z G L lab 32 c1 ca0 fs mb nb)
    {a : Nat} {ct av dd : Int32} {ca fb ra : Nat → Int32} (han : a < n) (hL : L.testBit a = true) (h : dR n z G L lab F Rn a 0 ct av dd ca fb ra) :
    ∃ ct2 av2 dd2 ca2 fb2 ra2, lp_X4_studyPart_96 (nI n) ci sz (oJ (lastN n L a)) (nI a) (nI L) nb N 0 ct av dd ca fb ra = some (ct2, av2, dd2, ca2, fb2, ra2) ∧ dR n z G L lab F Rn (a + 1) 0 ct2 av2 dd2 ca2 fb2 ra2 := by
  have h8 := ha.1
  have hz := (ha.2 a han).2.1
  have hsz := (hc.2 a han).1
  have main := lp_up (fun n' i (s : Int32 × Int32 × Int32 × (Nat → Int32) × (Nat → Int32) × (Nat → Int32)) => lp_X4_studyPart_96 (nI n) ci sz (oJ (lastN n L a)) (nI a) (nI L) nb n' (nI i) s.1 s.2.1 s.2.2.1 s.2.2.2.1 s.2.2.2.2.1 s.2.2.2.2.2) (z a)
    (fun i s => dR n z G L lab F Rn a i s.1 s.2.1 s.2.2.1 s.2.2.2.1 s.2.2.2.2.1 s.2.2.2.2.2) (fun s => dR n z G L lab F Rn a (z a) s.1 s.2.1 s.2.2.1 s.2.2.2.1 s.2.2.2.2.1 s.2.2.2.2.2)
    (fun m s hI => ⟨s, by
      simp only [lp_X4_studyPart_96]
      rw [x_size han h8, e_b1, hsz, if_pos (nI_le (Nat.le_refl _) (by omega))], hI⟩)
    (fun m i s hi hI => by
      obtain ⟨ct2, av2, dd2, ca2, fb2, ra2, e1, e2⟩ := x_res ha hc hlb hRS hF hdC han hi hL hI
      refine Or.inr ⟨(ct2, av2, dd2, ca2, fb2, ra2), e2, ?_⟩
      simp only [lp_X4_studyPart_96]
      rw [x_size han h8, e_b1, hsz, if_neg (nI_ge hi (by omega)), e1, e_b6, e_nm, nI_1])
    N 0 (ct, av, dd, ca, fb, ra) (by omega) (by omega) h
  obtain ⟨s, e1, e2⟩ := main
  refine ⟨_, _, _, _, _, _, e1, dR_gap hz (fun i h1 h2 => ?_) e2⟩
  unfold lf th
  rw [show (4 * a + i) / 4 = a by omega, show (4 * a + i) % 4 = i by omega]
  simp [show ¬ i < z a by omega]
theorem lastN_s (n L m : Nat) : lastN n L (m + 1) = if (L.testBit m && decide (m < n)) = true then some m else lastN n L m := rfl
theorem x_sp71 {n : Nat} {z : Nat → Nat} {G : Nat → Nat → Nat} (ha : aP n z G) {sz : Nat → Int32} {ci : Nat → Int64} (hc : cP n z G (nI n) sz ci) {L N : Nat} (hN : 2000 ≤ N) {lab : Nat → Nat} (hlb : LB (sp n z G L) (mt G) lab) {F : Nat → Option Nat} {Rn : Nat → Nat} (hRS : RS n z G L lab F Rn) (hF : ∀ q c, F q = some c → c < 32) {c1 : Int32} {ca0 fs mb nb : Nat → Int32} (hdC : dC n z G L lab 32 c1 ca0 fs mb nb)
    {ct av dd : Int32} {ca fb ra : Nat → Int32} (h : dR n z G L lab F Rn 0 0 ct av dd ca fb ra) :
    ∃ ct2 av2 dd2 ca2 fb2 ra2, lp_X4_studyPart_71 N (nI n) ci sz (nI L) nb N (-1) 0 ct av dd ca fb ra = some (ct2, av2, dd2, ca2, fb2, ra2) ∧ dR n z G L lab F Rn n 0 ct2 av2 dd2 ca2 fb2 ra2 := by
  have h8 := ha.1
  have main := lp_up (fun n' i (s : Int32 × Int32 × Int32 × (Nat → Int32) × (Nat → Int32) × (Nat → Int32)) => lp_X4_studyPart_71 N (nI n) ci sz (nI L) nb n' (oJ (lastN n L i)) (nI i) s.1 s.2.1 s.2.2.1 s.2.2.2.1 s.2.2.2.2.1 s.2.2.2.2.2) n
    (fun i s => dR n z G L lab F Rn i 0 s.1 s.2.1 s.2.2.1 s.2.2.2.1 s.2.2.2.2.1 s.2.2.2.2.2) (fun s => dR n z G L lab F Rn n 0 s.1 s.2.1 s.2.2.1 s.2.2.2.1 s.2.2.2.2.1 s.2.2.2.2.2)
    (fun m s hI => ⟨s, by
      simp only [lp_X4_studyPart_71]
      rw [show f_X1_notes (nI n) = some (nI n) from rfl, e_b1, if_pos (nI_le (Nat.le_refl _) (by omega))], hI⟩)
    (fun m i s hi hI => by
      refine Or.inr ?_
      cases hLb : L.testBit i with
      | true =>
        obtain ⟨ct2, av2, dd2, ca2, fb2, ra2, e1, e2⟩ := x_sp96 ha hc hN hlb hRS hF hdC hi hLb hI
        refine ⟨(ct2, av2, dd2, ca2, fb2, ra2), e2, ?_⟩
        simp only [lp_X4_studyPart_71]
        rw [show f_X1_notes (nI n) = some (nI n) from rfl, e_b1, if_neg (nI_ge hi (by omega)), x_present (by omega), e_b1, hLb, if_pos (by decide), e1, e_b1, e_u6, e_nm, nI_1, lastN_s, hLb, if_pos (by simp [hi])]
        rfl
      | false =>
        refine ⟨s, dR_gap (by omega) (fun k _ h2 => ?_) hI, ?_⟩
        · unfold lf
          rw [show (4 * i + k) / 4 = i by omega, hLb, Bool.and_false]
        · simp only [lp_X4_studyPart_71]
          rw [show f_X1_notes (nI n) = some (nI n) from rfl, e_b1, if_neg (nI_ge hi (by omega)), x_present (by omega), e_b1, hLb, if_neg (by decide), e_nm, nI_1, lastN_s, hLb, if_neg (by simp)])
    N 0 (ct, av, dd, ca, fb, ra) (by omega) (by omega) h
  obtain ⟨s, e1, e2⟩ := main
  exact ⟨_, _, _, _, _, _, e1, e2⟩
/-- what the class holds of a paper that it has studied with the notes L left -/
def dS (n : Nat) (z : Nat → Nat) (G : Nat → Nat → Nat) (L : Nat) (lab : Nat → Nat) (F : Nat → Option Nat) (Rn : Nat → Nat) (pr cs0 ct av dd : Int32) (ca fs fb mb nb ra : Nat → Int32) : Prop :=
  pr = nI L ∧ cs0 = nI (fb_ct (fx n z G L lab) 32) ∧ (∀ c, c < fb_ct (fx n z G L lab) 32 → fs c = nI (kth (fx n z G L lab) c) ∧ ∀ b, b < 32 → bt (mb c) b = (sp n z G L b && decide (lab b = kth (fx n z G L lab) c))) ∧
  (∀ t, t < 6 → ∀ c, c < 32 → bt (nb t) c = (decide (c < fb_ct (fx n z G L lab) 32) && decide (G (kth (fx n z G L lab) c) 1 = t))) ∧
  (∀ q, q < 32 → lf n z L q = true → ca q = oJ (F q) ∧ ra q = nI (Rn q)) ∧ (∀ t c, t < 8 → c < 32 → bt (fb t) c = fndU n z L F t c 4) ∧
  (∀ c, c < 32 → bt ct c = decide (c < fb_ct (fx n z G L lab) 32)) ∧
  av = nI (fb_ct (fun q => lf n z L q && decide (F q ≠ none)) 32) ∧ dd = nI (fb_ct (fun q => lf n z L q && decide (F q = none)) 32)
theorem dR_end {n : Nat} {z : Nat → Nat} {G : Nat → Nat → Nat} {L : Nat} {lab : Nat → Nat} {F : Nat → Option Nat} {Rn : Nat → Nat} {ct av dd : Int32} {ca fb ra : Nat → Int32} : ∀ k a, n ≤ a → a + k = 8 → dR n z G L lab F Rn a 0 ct av dd ca fb ra → dR n z G L lab F Rn 8 0 ct av dd ca fb ra
  | 0, a, _, e, h => by
    have : a = 8 := by omega
    subst this; exact h
  | k + 1, a, hn, e, h => dR_end k (a + 1) (by omega) (by omega) (dR_gap (by omega) (fun i _ h2 => by
      unfold lf th
      rw [show (4 * a + i) / 4 = a by omega]
      simp [show ¬ a < n by omega]) h)
