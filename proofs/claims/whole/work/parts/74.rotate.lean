/-! notes change places; the class's way -/
section
variable {n : Nat} {z : Nat → Nat} {G : Nat → Nat → Nat} {p sz : Nat → Int32} {ci : Nat → Int64} {N : Nat} {nt ver : Int32}
def reZ (z : Nat → Nat) (σ : Nat → Nat) : Nat → Nat := fun j => z (σ j)
def reG (G : Nat → Nat → Nat) (σ : Nat → Nat) : Nat → Nat → Nat := fun r => G (4 * σ (r / 4) + r % 4)
def sw (k j : Nat) : Nat := if j = k then k + 1 else if j = k + 1 then k else j
/-- the note that stands at j when note a has been moved to b -/
def rot (a b j : Nat) : Nat := if j = b then a else if a ≤ j ∧ j < b then j + 1 else if b < j ∧ j ≤ a then j - 1 else j
theorem rot_up {a b : Nat} (h : a ≤ b) (j : Nat) : rot a b (sw b j) = rot a (b + 1) j := by
  unfold rot sw
  by_cases q1 : j = b
  · subst q1
    rw [if_pos rfl]
    by_cases q2 : j + 1 = j
    · omega
    · rw [if_neg q2, if_neg (by omega), if_neg (by omega), if_neg (by omega), if_pos (by omega)]
  · rw [if_neg q1]
    by_cases q2 : j = b + 1
    · subst q2
      rw [if_pos rfl, if_pos rfl, if_pos rfl]
    · rw [if_neg q2, if_neg q1, if_neg q2]
      by_cases q3 : a ≤ j ∧ j < b
      · rw [if_pos q3, if_pos (by omega)]
      · rw [if_neg q3, if_neg (by omega), if_neg (by omega), if_neg (by omega)]
theorem rot_dn {a b : Nat} (h : b < a) (j : Nat) : rot a (b + 1) (sw b j) = rot a b j := by
  unfold rot sw
  by_cases q1 : j = b
  · subst q1
    rw [if_pos rfl, if_pos rfl, if_pos rfl]
  · rw [if_neg q1]
    by_cases q2 : j = b + 1
    · subst q2
      rw [if_pos rfl, if_neg (by omega), if_neg (by omega), if_neg (by omega), if_neg q1, if_neg (by omega), if_pos (by omega)]
      omega
    · rw [if_neg q2, if_neg q2, if_neg q1]
      by_cases q3 : b < j ∧ j ≤ a
      · rw [if_neg (by omega), if_pos (by omega), if_neg (by omega), if_pos (by omega)]
      · rw [if_neg (by omega), if_neg (by omega), if_neg (by omega), if_neg (by omega)]
theorem rot_id (a j : Nat) : rot a a j = j := by
  unfold rot
  by_cases q : j = a
  · rw [if_pos q, q]
  · rw [if_neg q, if_neg (by omega), if_neg (by omega)]
theorem rot_lt {a b j n : Nat} (ha : a < n) (hb : b < n) (hj : j < n) : rot a b j < n := by
  unfold rot
  split
  · exact ha
  · split
    · omega
    · split <;> omega
theorem re_a (ha : aP n z G) {σ : Nat → Nat} (hσ : ∀ j, j < n → σ j < n) : aP n (reZ z σ) (reG G σ) := by
  refine ⟨ha.1, fun k hk => ⟨(ha.2 _ (hσ k hk)).1, (ha.2 _ (hσ k hk)).2.1, fun j hj => ?_⟩⟩
  have h4 := (ha.2 _ (hσ k hk)).2.1
  have hj : j < z (σ k) := hj
  unfold reG
  rw [show (4 * k + j) / 4 = k by omega, show (4 * k + j) % 4 = j by omega]
  exact (ha.2 _ (hσ k hk)).2.2 j hj
theorem reG_at (G : Nat → Nat → Nat) (σ : Nat → Nat) {k j : Nat} (hj : j < 4) : reG G σ (4 * k + j) = G (4 * σ k + j) := by
  unfold reG
  rw [show (4 * k + j) / 4 = k by omega, show (4 * k + j) % 4 = j by omega]
theorem re_re (z : Nat → Nat) (σ τ : Nat → Nat) : reZ (reZ z σ) τ = reZ z (fun j => σ (τ j)) := rfl
theorem reG_re (G : Nat → Nat → Nat) (σ τ : Nat → Nat) : reG (reG G σ) τ = reG G (fun j => σ (τ j)) := by
  funext r
  unfold reG
  rw [show (4 * τ (r / 4) + r % 4) / 4 = τ (r / 4) by omega, show (4 * τ (r / 4) + r % 4) % 4 = r % 4 by omega]
theorem x_swap (ha : aP n z G) (hc : cP n z G nt sz ci) (hN : 2000 ≤ N) {k : Nat} (hk : k + 1 < n) :
    ∃ ci' sz', f_X1_swapWithNext N ci sz (nI k) = some (ci', sz') ∧ cP n (reZ z (sw k)) (reG G (sw k)) nt sz' ci' := by
  have h8 := ha.1
  have main := lp_up (fun m i (s : Nat → Int64) => lp_X1_swapWithNext_43 (nI k) m (nI i) s) 4 (fun i s => ∀ r, s r = if r / 4 = k ∧ r % 4 < i then ci (r + 4) else if r / 4 = k + 1 ∧ r % 4 < i then ci (r - 4) else ci r) (fun s => ∀ r, s r = if r / 4 = k ∧ r % 4 < 4 then ci (r + 4) else if r / 4 = k + 1 ∧ r % 4 < 4 then ci (r - 4) else ci r)
    (fun m s w => ⟨s, by
      simp only [lp_X1_swapWithNext_43]
      rw [if_pos (show (4 : Int32) ≤ nI 4 from by decide)], w⟩)
    (fun m i s hi w => by
      refine Or.inr ⟨vp_updL (vp_updL s (4 * k + i) (s (4 * k + i + 4))) (4 * k + i + 4) (s (4 * k + i)), fun r => ?_, ?_⟩
      · have e1 := w (4 * k + i)
        have e2 := w (4 * k + i + 4)
        rw [if_neg (by omega), if_neg (by omega)] at e1 e2
        rw [e1, e2]
        by_cases q1 : r = 4 * k + i + 4
        · subst q1
          rw [updL_s, if_neg (by omega), if_pos (by omega)]
          congr 1
        · rw [updL_n _ _ q1]
          by_cases q2 : r = 4 * k + i
          · subst q2
            rw [updL_s, if_pos (by omega)]
          · rw [updL_n _ _ q2, w r]
            by_cases q3 : r / 4 = k ∧ r % 4 < i
            · rw [if_pos q3, if_pos (by omega)]
            · rw [if_neg q3, if_neg (show ¬ (r / 4 = k ∧ r % 4 < i + 1) by omega)]
              by_cases q4 : r / 4 = k + 1 ∧ r % 4 < i
              · rw [if_pos q4, if_pos (show r / 4 = k + 1 ∧ r % 4 < i + 1 by omega)]
              · rw [if_neg q4, if_neg (show ¬ (r / 4 = k + 1 ∧ r % 4 < i + 1) by omega)]
      · simp only [lp_X1_swapWithNext_43]
        rw [if_neg (show ¬ (4 : Int32) ≤ nI i from nI_ge (b := 4) hi (by omega)), x_slot, e_b1, e_rd _ _ (by omega) (by omega), show (4 : Int32) = nI 4 from rfl, nI_add, e_rd _ _ (by omega) (by omega), e_wrJ _ _ _ (by omega) (by omega), e_wrJ _ _ _ (by omega) (by omega), e_nm, nI_1])
    N 0 ci (by omega) (by omega) (fun r => by rw [if_neg (by omega), if_neg (by omega)])
  obtain ⟨s, k1, k2⟩ := main
  refine ⟨s, upd (upd sz k (sz (k + 1))) (k + 1) (sz k), ?_, hc.1, fun j hj => ?_⟩
  · unfold f_X1_swapWithNext
    rw [if_neg (nI_pos (by omega)), if_pos (show nI k < 7 from nI_lt (b := 7) (by omega) (by omega)), e_rd _ _ (by omega) (by omega), nI_1, e_rd _ _ (by omega) (by omega), e_wrI _ _ _ (by omega) (by omega), e_wrI _ _ _ (by omega) (by omega), show lp_X1_swapWithNext_43 (nI k) N 0 ci = some s from k1, e_b1, e_u1]
  · unfold reZ
    by_cases q1 : j = k
    · subst q1
      have e : sw j j = j + 1 := if_pos rfl
      have hz := (ha.2 (j + 1) hk).2.1
      rw [upd_n _ _ (by omega), upd_s, e]
      refine ⟨(hc.2 _ hk).1, fun i hi => ?_⟩
      rw [k2, if_pos (by omega), reG_at _ _ (by omega), e, ← (hc.2 _ hk).2 i hi]
      congr 1; omega
    · by_cases q2 : j = k + 1
      · subst q2
        have e : sw k (k + 1) = k := by unfold sw; rw [if_neg (by omega), if_pos rfl]
        have hz := (ha.2 k (by omega)).2.1
        rw [upd_s, e]
        refine ⟨(hc.2 _ (by omega)).1, fun i hi => ?_⟩
        rw [k2, if_neg (by omega), if_pos (by omega), reG_at _ _ (by omega), e, ← (hc.2 k (by omega)).2 i hi]
        congr 1; omega
      · have e : sw k j = j := by unfold sw; rw [if_neg q1, if_neg q2]
        have hz := (ha.2 j hj).2.1
        rw [upd_n _ _ q2, upd_n _ _ q1, e]
        refine ⟨(hc.2 _ hj).1, fun i hi => ?_⟩
        rw [k2, if_neg (by omega), if_neg (by omega), reG_at _ _ (by omega), e]
        exact (hc.2 j hj).2 i hi
theorem x_rotUp (ha : aP n z G) (hc : cP n z G nt sz ci) (hN : 2000 ≤ N) {a b : Nat} (hab : a ≤ b) (hb : b < n) :
    ∃ ci' sz', lp_X1_rotateNotes_2 N (nI b) N (nI a) ci sz = some (ci', sz') ∧ cP n (reZ z (rot a b)) (reG G (rot a b)) nt sz' ci' := by
  have h8 := ha.1
  have main := lp_up (fun m i (s : (Nat → Int64) × (Nat → Int32)) => lp_X1_rotateNotes_2 N (nI b) m (nI i) s.1 s.2) b (fun i s => a ≤ i ∧ cP n (reZ z (rot a i)) (reG G (rot a i)) nt s.2 s.1) (fun s => cP n (reZ z (rot a b)) (reG G (rot a b)) nt s.2 s.1)
    (fun m s w => ⟨s, by
      simp only [lp_X1_rotateNotes_2]
      rw [if_pos (nI_le (Nat.le_refl _) (by omega))], w.2⟩)
    (fun m i s hi w => by
      have hA := re_a ha (σ := rot a i) (fun j hj => rot_lt (by omega) (by omega) hj)
      obtain ⟨c2, s2, e1, e2⟩ := x_swap hA w.2 hN (k := i) (by omega)
      refine Or.inr ⟨(c2, s2), ⟨by omega, ?_⟩, ?_⟩
      · rw [re_re, reG_re, show (fun j => rot a i (sw i j)) = rot a (i + 1) from funext (fun j => rot_up w.1 j)] at e2
        exact e2
      · simp only [lp_X1_rotateNotes_2]
        rw [if_neg (nI_ge hi (by omega)), e1, e_b2, e_nm, nI_1])
    N a (ci, sz) hab (by omega) ⟨Nat.le_refl _, by
      rw [show rot a a = fun j => j from funext (fun j => rot_id a j)]
      exact cP_cong hc (fun k hk => ⟨rfl, fun j hj => by
        have := (ha.2 k hk).2.1
        rw [reG_at _ _ (by omega)]⟩)⟩
  obtain ⟨s, k1, k2⟩ := main
  exact ⟨s.1, s.2, k1, k2⟩
theorem x_rotDn (ha : aP n z G) (hc : cP n z G nt sz ci) (hN : 2000 ≤ N) {a b : Nat} (hab : b ≤ a) (hA0 : a < n) :
    ∃ ci' sz', lp_X1_rotateNotes_22 N (nI b) N (nI a - 1) ci sz = some (ci', sz') ∧ cP n (reZ z (rot a b)) (reG G (rot a b)) nt sz' ci' := by
  have h8 := ha.1
  have e0 : cP n (reZ z (rot a a)) (reG G (rot a a)) nt sz ci := by
    rw [show rot a a = fun j => j from funext (fun j => rot_id a j)]
    exact cP_cong hc (fun k hk => ⟨rfl, fun j hj => by
      have := (ha.2 k hk).2.1
      rw [reG_at _ _ (by omega)]⟩)
  have main : ∀ c M (ci1 : Nat → Int64) (sz1 : Nat → Int32), b + c ≤ a → c < M → cP n (reZ z (rot a (b + c))) (reG G (rot a (b + c))) nt sz1 ci1 → ∃ ci' sz', lp_X1_rotateNotes_22 N (nI b) M (nI (b + c) - 1) ci1 sz1 = some (ci', sz') ∧ cP n (reZ z (rot a b)) (reG G (rot a b)) nt sz' ci' := by
    intro c
    induction c with
    | zero =>
      intro M ci1 sz1 _ hM h
      obtain ⟨m, rfl⟩ : ∃ m, M = m + 1 := ⟨M - 1, by omega⟩
      refine ⟨ci1, sz1, ?_, h⟩
      simp only [lp_X1_rotateNotes_22]
      rw [if_pos]
      rw [Nat.add_zero b, i_lt, show (1 : Int32) = nI 1 from rfl, pk_sub_toInt (by omega) (by omega), nI_toInt (by omega)]
      omega
    | succ c ih =>
      intro M ci1 sz1 hle hM h
      obtain ⟨m, rfl⟩ : ∃ m, M = m + 1 := ⟨M - 1, by omega⟩
      have hA := re_a ha (σ := rot a (b + (c + 1))) (fun j hj => rot_lt (by omega) (by omega) hj)
      obtain ⟨c2, s2, e1, e2⟩ := x_swap hA h hN (k := b + c) (by omega)
      rw [re_re, reG_re, show (fun j => rot a (b + (c + 1)) (sw (b + c) j)) = rot a (b + c) from funext (fun j => rot_dn (b := b + c) (by omega) j)] at e2
      obtain ⟨ci', sz', k1, k2⟩ := ih m c2 s2 (by omega) (by omega) e2
      refine ⟨ci', sz', ?_, k2⟩
      simp only [lp_X1_rotateNotes_22]
      rw [show nI (b + (c + 1)) - 1 = nI (b + c) from nI_pred (b + c), if_neg (nI_nlt (by omega) (by omega)), e1, e_b2, e_nm, show nI (b + c) + (-1 : Int32) = nI (b + c) - 1 from by rw [Int32.sub_eq_add_neg], k1]
  obtain ⟨ci', sz', k1, k2⟩ := main (a - b) N ci sz (by omega) (by omega) (by rw [show b + (a - b) = a by omega]; exact e0)
  rw [show b + (a - b) = a by omega] at k1
  exact ⟨ci', sz', k1, k2⟩
theorem x_rotate (ha : aP n z G) (hc : cP n z G nt sz ci) (hN : 2000 ≤ N) {a b : Nat} (hA : a < n) (hb : b < n) :
    ∃ ci' sz', f_X1_rotateNotes N ci sz (nI a) (nI b) = some (ci', sz') ∧ cP n (reZ z (rot a b)) (reG G (rot a b)) nt sz' ci' := by
  have h8 := ha.1
  unfold f_X1_rotateNotes
  by_cases q : a ≤ b
  · obtain ⟨c1, s1, e1, e2⟩ := x_rotUp ha hc hN q hb
    refine ⟨c1, s1, ?_, e2⟩
    rw [e1, e_b1, e_u2, e_nm]
    obtain ⟨M, hM⟩ : ∃ m, N = m + 1 := ⟨N - 1, by omega⟩
    have : lp_X1_rotateNotes_22 N (nI b) N (nI a - 1) c1 s1 = some (c1, s1) := by
      have k : ∀ m, lp_X1_rotateNotes_22 N (nI b) (m + 1) (nI a - 1) c1 s1 = some (c1, s1) := by
        intro m
        simp only [lp_X1_rotateNotes_22]
        rw [if_pos]
        rw [i_lt, show (1 : Int32) = nI 1 from rfl, pk_sub_toInt (by omega) (by omega), nI_toInt (by omega)]
        omega
      have k2 := k M
      rw [← hM] at k2
      exact k2
    rw [this, e_b1, e_u2]
  · obtain ⟨c1, s1, e1, e2⟩ := x_rotDn ha hc hN (a := a) (b := b) (by omega) hA
    refine ⟨c1, s1, ?_, e2⟩
    obtain ⟨M, hM⟩ : ∃ m, N = m + 1 := ⟨N - 1, by omega⟩
    have : lp_X1_rotateNotes_2 N (nI b) N (nI a) ci sz = some (ci, sz) := by
      have k : ∀ m, lp_X1_rotateNotes_2 N (nI b) (m + 1) (nI a) ci sz = some (ci, sz) := by
        intro m
        simp only [lp_X1_rotateNotes_2]
        rw [if_pos (nI_le (by omega) (by omega))]
      have k2 := k M
      rw [← hM] at k2
      exact k2
    rw [this, e_b1, e_u2, e_nm, e1, e_b1, e_u2]
end
