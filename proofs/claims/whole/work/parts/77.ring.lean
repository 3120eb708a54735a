/-! places for copies of papers: the class's shelves against the reference's book and slots -/
section
variable {n : Nat} {z : Nat → Nat} {G : Nat → Nat → Nat} {p sz : Nat → Int32} {ci : Nat → Int64} {N : Nat} {nt ver : Int32} {fd ns ss bk : Nat → Int32} {sc : Nat → Int64}
def shP (n : Nat) (z : Nat → Nat) (G : Nat → Nat → Nat) (fd ns ss : Nat → Int32) (sc : Nat → Int64) (s : Nat) : Prop := fd s = 1 ∧ ns s = nI n ∧ ∀ k, k < n → ss (s * 8 + k) = nI (z k) ∧ ∀ j, j < z k → sc (s * 32 + (4 * k + j)) = lN (en (G (4 * k + j)))
theorem x_save {P s : Nat} (hs : s < P) (hP : P ≤ 100) : f_X1_saveTo ci sz (8 * P) ss (32 * P) sc (nI s) = some (va_cpy sz ss 0 (s * 8) 8, va_cpy ci sc 0 (s * 32) 32) := by
  unfold f_X1_saveTo
  rw [if_neg (nI_pos (by omega)), nI_1, show (8 : Int32) = nI 8 from rfl, show (32 : Int32) = nI 32 from rfl, pk_mul, pk_mul, pk_mul, pk_mul, if_neg (show ¬ Int32.ofNat (8 * P) < nI ((s + 1) * 8) from nI_nlt (by omega) (by omega)), if_pos (show nI ((s + 1) * 32) ≤ Int32.ofNat (32 * P) from nI_le (by omega) (by omega)), show (0 : Int32) = nI 0 from rfl,
    e_cp _ _ _ (by omega) (by omega) (by omega) (by omega), e_cp _ _ _ (by omega) (by omega) (by omega) (by omega)]
theorem x_store {P s : Nat} (hs : s < P) (hP : P ≤ 100) : f_X3_store (nI P) (32 * P) sc P fd P ns (8 * P) ss (nI n) ci sz (nI s) = some (va_cpy ci sc 0 (s * 32) 32, upd fd s 1, upd ns s (nI n), va_cpy sz ss 0 (s * 8) 8) := by
  unfold f_X3_store
  rw [if_neg (nI_pos (by omega)), if_pos (nI_lt hs (by omega)), e_wrZ _ _ _ hs (by omega), e_nar1, show f_X1_notes (nI n) = some (nI n) from rfl, e_b1, e_wrI _ _ _ hs (by omega), x_save hs hP, e_b2]
theorem shP_new (ha : aP n z G) (hc : cP n z G (nI n) sz ci) (s : Nat) : shP n z G (upd fd s 1) (upd ns s (nI n)) (va_cpy sz ss 0 (s * 8) 8) (va_cpy ci sc 0 (s * 32) 32) s := by
  have h8 := ha.1
  refine ⟨upd_s _ _ _, upd_s _ _ _, fun k hk => ⟨?_, fun j hj => ?_⟩⟩
  · rw [pk_cpy_in (by omega) (by omega), show 0 + (s * 8 + k - s * 8) = k by omega]
    exact (hc.2 k hk).1
  · have h4 := (ha.2 k hk).2.1
    rw [pk_cpy_in (by omega) (by omega), show 0 + (s * 32 + (4 * k + j) - s * 32) = 4 * k + j by omega]
    exact (hc.2 k hk).2 j hj
theorem shP_old {x : Int32} {s t : Nat} (ha : aP n z G) (h : shP n z G fd ns ss sc t) (hst : t ≠ s) : shP n z G (upd fd s 1) (upd ns s x) (va_cpy sz ss 0 (s * 8) 8) (va_cpy ci sc 0 (s * 32) 32) t := by
  have h8 := ha.1
  refine ⟨by rw [upd_n _ _ hst]; exact h.1, by rw [upd_n _ _ hst]; exact h.2.1, fun k hk => ⟨?_, fun j hj => ?_⟩⟩
  · rw [pk_cpy_out (by omega)]
    exact (h.2.2 k hk).1
  · have h4 := (ha.2 k hk).2.1
    rw [pk_cpy_out (by omega)]
    exact (h.2.2 k hk).2 j hj
theorem x_fetch {P s : Nat} (hs : s < P) (hP : P ≤ 100) (ha : aP n z G) (h : shP n z G fd ns ss sc s) (qn qv : Int32) (qc : Nat → Int64) (qs : Nat → Int32) :
    ∃ ci' sz', f_X3_fetch (nI P) (32 * P) sc P fd P ns (8 * P) ss qn qv qc qs (nI s) = some (nI n, qv + 1, ci', sz') ∧ cP n z G (nI n) sz' ci' := by
  have h8 := ha.1
  refine ⟨va_cpy sc qc (s * 32) 0 32, va_cpy ss qs (s * 8) 0 8, ?_, rfl, fun k hk => ⟨?_, fun j hj => ?_⟩⟩
  · unfold f_X3_fetch
    rw [if_neg (nI_pos (by omega)), if_neg (nI_ge hs (by omega)), e_rd _ _ hs (by omega), h.1, if_pos (by decide), e_rd _ _ hs (by omega), h.2.1]
    unfold f_X1_loadFrom
    rw [if_neg (nI_pos (by omega)), nI_1, show (8 : Int32) = nI 8 from rfl, show (32 : Int32) = nI 32 from rfl, pk_mul, pk_mul, pk_mul, pk_mul, if_neg (show ¬ Int32.ofNat (8 * P) < nI ((s + 1) * 8) from nI_nlt (by omega) (by omega)), if_pos (show nI ((s + 1) * 32) ≤ Int32.ofNat (32 * P) from nI_le (by omega) (by omega)), e_nm, show (0 : Int32) = nI 0 from rfl,
      e_cp _ _ _ (by omega) (by omega) (by omega) (by omega), e_cp _ _ _ (by omega) (by omega) (by omega) (by omega), e_b4]
  · rw [pk_cpy_in (by omega) (by omega), show s * 8 + (k - 0) = s * 8 + k by omega]
    exact (h.2.2 k hk).1
  · have h4 := (ha.2 k hk).2.1
    rw [pk_cpy_in (by omega) (by omega), show s * 32 + (4 * k + j - 0) = s * 32 + (4 * k + j) by omega]
    exact (h.2.2 k hk).2 j hj
theorem x_copyF (ha : aP n z G) (hc : cP n z G (nI n) sz ci) (qn qv : Int32) (qc : Nat → Int64) (qs : Nat → Int32) :
    ∃ ci' sz', f_X1_copyFrom qn qv qc qs (nI n) ci sz = some (nI n, qv + 1, ci', sz') ∧ cP n z G (nI n) sz' ci' := by
  have h8 := ha.1
  refine ⟨va_cpy ci qc 0 0 32, va_cpy sz qs 0 0 8, ?_, rfl, fun k hk => ⟨?_, fun j hj => ?_⟩⟩
  · unfold f_X1_copyFrom
    rw [e_nm, show (0 : Int32) = nI 0 from rfl, show (8 : Int32) = nI 8 from rfl, show (32 : Int32) = nI 32 from rfl, e_cp _ _ _ (by omega) (by omega) (by omega) (by omega), e_cp _ _ _ (by omega) (by omega) (by omega) (by omega)]
  · rw [pk_cpy_in (by omega) (by omega), show 0 + (k - 0) = k by omega]
    exact (hc.2 k hk).1
  · have h4 := (ha.2 k hk).2.1
    rw [pk_cpy_in (by omega) (by omega), show 0 + (4 * k + j - 0) = 4 * k + j by omega]
    exact (hc.2 k hk).2 j hj
/-! the reference's book -/
theorem m_bk52 (pg : Nat → Int32) (hN : 10000 ≤ N) {d : Nat} (hd : d < 14) : ∃ g, lp_X7_note_52 pg (nI d) N 0 bk = some g ∧ ∀ j, g j = if 265 * d ≤ j ∧ j < 265 * d + 265 then pg (j - 265 * d) else bk j := by
  have main := lp_up (fun m i (s : Nat → Int32) => lp_X7_note_52 pg (nI d) m (nI i) s) 265 (fun i s => ∀ j, s j = if 265 * d ≤ j ∧ j < 265 * d + i then pg (j - 265 * d) else bk j) (fun s => ∀ j, s j = if 265 * d ≤ j ∧ j < 265 * d + 265 then pg (j - 265 * d) else bk j)
    (fun m s w => ⟨s, by
      simp only [lp_X7_note_52]
      rw [if_pos (show (265 : Int32) ≤ nI 265 from by decide)], w⟩)
    (fun m i s hi w => by
      refine Or.inr ⟨upd s (265 * d + i) (pg i), fun j => ?_, ?_⟩
      · by_cases e : j = 265 * d + i
        · subst e
          rw [upd_s, if_pos (by omega), show 265 * d + i - 265 * d = i by omega]
        · rw [upd_n _ _ e, w j]
          by_cases q : 265 * d ≤ j ∧ j < 265 * d + i
          · rw [if_pos q, if_pos (by omega)]
          · rw [if_neg q, if_neg (by omega)]
      · simp only [lp_X7_note_52]
        rw [if_neg (show ¬ (265 : Int32) ≤ nI i from nI_ge (b := 265) hi (by omega)), e_rd _ _ hi (by omega), show (265 : Int32) = nI 265 from rfl, pk_mul, nI_add, e_wrI _ _ _ (by omega) (by omega), e_nm, nI_1])
    N 0 bk (by omega) (by omega) (fun j => by rw [if_neg (by omega)])
  exact main
theorem m_bk11 (hN : 10000 ≤ N) : ∃ g, lp_X7_note_11 N 0 bk = some g ∧ ∀ j, g j = if j < 3445 then bk (j + 265) else bk j := by
  have main := lp_up (fun m i (s : Nat → Int32) => lp_X7_note_11 m (nI i) s) 3445 (fun i s => ∀ j, s j = if j < i then bk (j + 265) else bk j) (fun s => ∀ j, s j = if j < 3445 then bk (j + 265) else bk j)
    (fun m s w => ⟨s, by
      simp only [lp_X7_note_11]
      rw [if_pos (show (3445 : Int32) ≤ nI 3445 from by decide)], w⟩)
    (fun m i s hi w => by
      refine Or.inr ⟨upd s i (bk (i + 265)), fun j => ?_, ?_⟩
      · by_cases e : j = i
        · subst e
          rw [upd_s, if_pos (by omega)]
        · rw [upd_n _ _ e, w j]
          by_cases q : j < i
          · rw [if_pos q, if_pos (by omega)]
          · rw [if_neg q, if_neg (by omega)]
      · simp only [lp_X7_note_11]
        rw [if_neg (show ¬ (3445 : Int32) ≤ nI i from nI_ge (b := 3445) hi (by omega)), show (265 : Int32) = nI 265 from rfl, nI_add, e_rd _ _ (by omega) (by omega), w (i + 265), if_neg (by omega), e_wrI _ _ _ (by omega) (by omega), e_nm, nI_1])
    N 0 bk (by omega) (by omega) (fun j => by rw [if_neg (by omega)])
  exact main
/-- edits that can be undone -/
def uR (ud np dg : Int32) (fd ns ss : Nat → Int32) (sc : Nat → Int64) (bk : Nat → Int32) : Prop := ∃ u w, u ≤ 14 ∧ w < 14 ∧ ud = nI u ∧ np = nI w ∧ dg = nI u ∧ ∀ i, i < u → ∃ n z G, aP n z G ∧ shP n z G fd ns ss sc ((w + 14 - i) % 14) ∧ mP n z G (fun j => bk (265 * (u - 1 - i) + j))
theorem mP_ext (ha : aP n z G) {q : Nat → Int32} (hm : mP n z G p) (e : ∀ i, i < 265 → q i = p i) : mP n z G q := mP_lay ha hm e
theorem u_note {ud np dg : Int32} (ha : aP n z G) (hc : cP n z G (nI n) sz ci) (hm : mP n z G p) (hN : 10000 ≤ N) (h : uR ud np dg fd ns ss sc bk) :
    ∃ ud' np' fd' ns' ss' sc' bk', f_X6_remember ud np (nI n) ci sz (nI 14) sc fd ns ss = some (ud', np', sc', fd', ns', ss') ∧ f_X7_note N dg bk p = some (ud', bk') ∧ uR ud' np' ud' fd' ns' ss' sc' bk' := by
  obtain ⟨u, w, hu, hw, rfl, rfl, rfl, hH⟩ := h
  have e14 : nI w + 1 - (nI w + 1) / 14 * 14 = nI ((w + 1) % 14) := by rw [nI_1, show (14 : Int32) = nI 14 from rfl, pk_rem (by omega) (by omega) (by omega)]
  have hs := x_store (P := 14) (s := (w + 1) % 14) (n := n) (sz := sz) (ci := ci) (fd := fd) (ns := ns) (ss := ss) (sc := sc) (by omega) (by omega)
  have hX : f_X6_remember (nI u) (nI w) (nI n) ci sz (nI 14) sc fd ns ss = some (nI (if u < 14 then u + 1 else 14), nI ((w + 1) % 14), va_cpy ci sc 0 ((w + 1) % 14 * 32) 32, upd fd ((w + 1) % 14) 1, upd ns ((w + 1) % 14) (nI n), va_cpy sz ss 0 ((w + 1) % 14 * 8) 8) := by
    unfold f_X6_remember
    rw [e14, e_nm, show f_X3_store (nI 14) 448 sc 14 fd 14 ns 112 ss (nI n) ci sz (nI ((w + 1) % 14)) = _ from hs, e_b4, e_nm, nI_1]
    by_cases q : u < 14
    · rw [if_pos q, if_neg (show ¬ (14 : Int32) < nI (u + 1) from nI_nlt (a := 14) (by omega) (by omega))]
    · rw [if_neg q, if_pos (show (14 : Int32) < nI (u + 1) from nI_lt (a := 14) (by omega) (by omega))]
      rfl
  have old : ∀ i, i < u → i + 1 < 14 → ∃ n' z' G', aP n' z' G' ∧ shP n' z' G' (upd fd ((w + 1) % 14) 1) (upd ns ((w + 1) % 14) (nI n)) (va_cpy sz ss 0 ((w + 1) % 14 * 8) 8) (va_cpy ci sc 0 ((w + 1) % 14 * 32) 32) (((w + 1) % 14 + 14 - (i + 1)) % 14) ∧ mP n' z' G' (fun j => bk (265 * (u - 1 - i) + j)) := by
    intro i hi hi2
    obtain ⟨n', z', G', h1, h2, h3⟩ := hH i hi
    have e : ((w + 1) % 14 + 14 - (i + 1)) % 14 = (w + 14 - i) % 14 := by omega
    rw [e]
    exact ⟨n', z', G', h1, shP_old h1 h2 (by omega), h3⟩
  by_cases q : u < 14
  · obtain ⟨g, g1, g2⟩ := m_bk52 (bk := bk) p hN q
    refine ⟨_, _, _, _, _, _, g, hX, ?_, ?_⟩
    · unfold f_X7_note
      rw [if_pos (show ¬ nI u = 14 from fun k => by have := (nI_eq (b := 14) (by omega) (by omega)).mp k; omega), g1, e_b1, e_u1, nI_1, e_nm, if_pos q]
    · rw [if_pos q]
      refine ⟨u + 1, (w + 1) % 14, by omega, by omega, rfl, rfl, rfl, fun i hi => ?_⟩
      by_cases i0 : i = 0
      · subst i0
        refine ⟨n, z, G, ha, ?_, mP_ext ha hm (fun j hj => ?_)⟩
        · rw [show ((w + 1) % 14 + 14 - 0) % 14 = (w + 1) % 14 by omega]
          exact shP_new ha hc _
        · rw [g2, if_pos (by omega), show 265 * (u + 1 - 1 - 0) + j - 265 * u = j by omega]
      · obtain ⟨n', z', G', h1, h2, h3⟩ := old (i - 1) (by omega) (by omega)
        rw [show i - 1 + 1 = i by omega] at h2
        refine ⟨n', z', G', h1, h2, mP_ext h1 h3 (fun j hj => ?_)⟩
        rw [g2, if_neg (by omega), show u + 1 - 1 - i = u - 1 - (i - 1) by omega]
  · have eu : u = 14 := by omega
    subst eu
    obtain ⟨g0, g1, g2⟩ := m_bk11 (bk := bk) hN
    obtain ⟨g, f1, f2⟩ := m_bk52 (bk := g0) (d := 13) p hN (by omega)
    refine ⟨_, _, _, _, _, _, g, hX, ?_, ?_⟩
    · unfold f_X7_note
      rw [if_neg (show ¬ ¬ nI 14 = 14 from fun k => k rfl), g1, e_b1, e_u1, show nI 14 - 1 = nI 13 from nI_pred 13, e_nm, f1, e_b1, e_u1, nI_1, e_nm, if_neg (show ¬ 14 < 14 by omega)]
    · rw [if_neg (show ¬ 14 < 14 by omega)]
      refine ⟨14, (w + 1) % 14, by omega, by omega, rfl, rfl, rfl, fun i hi => ?_⟩
      by_cases i0 : i = 0
      · subst i0
        refine ⟨n, z, G, ha, ?_, mP_ext ha hm (fun j hj => ?_)⟩
        · rw [show ((w + 1) % 14 + 14 - 0) % 14 = (w + 1) % 14 by omega]
          exact shP_new ha hc _
        · rw [f2, if_pos (by omega), show 265 * (14 - 1 - 0) + j - 265 * 13 = j by omega]
      · obtain ⟨n', z', G', h1, h2, h3⟩ := old (i - 1) (by omega) (by omega)
        rw [show i - 1 + 1 = i by omega] at h2
        refine ⟨n', z', G', h1, h2, mP_ext h1 h3 (fun j hj => ?_)⟩
        rw [f2, if_neg (by omega), g2, if_pos (by omega), show 265 * (14 - 1 - i) + j + 265 = 265 * (14 - 1 - (i - 1)) + j by omega]
theorem m_un27 {q : Nat → Int32} (hN : 10000 ≤ N) {d : Nat} (hd : d < 14) : ∃ g, lp_X7_undo_27 bk (nI d) N 0 q = some g ∧ ∀ j, j < 265 → g j = bk (265 * d + j) := by
  have main := lp_up (fun m i (s : Nat → Int32) => lp_X7_undo_27 bk (nI d) m (nI i) s) 265 (fun i s => ∀ j, j < i → s j = bk (265 * d + j)) (fun s => ∀ j, j < 265 → s j = bk (265 * d + j))
    (fun m s w => ⟨s, by
      simp only [lp_X7_undo_27]
      rw [if_pos (show (265 : Int32) ≤ nI 265 from by decide)], w⟩)
    (fun m i s hi w => by
      refine Or.inr ⟨upd s i (bk (265 * d + i)), fun j hj => ?_, ?_⟩
      · by_cases e : j = i
        · rw [e, upd_s]
        · rw [upd_n _ _ e]; exact w j (by omega)
      · simp only [lp_X7_undo_27]
        rw [if_neg (show ¬ (265 : Int32) ≤ nI i from nI_ge (b := 265) hi (by omega)), show (265 : Int32) = nI 265 from rfl, pk_mul, nI_add, e_rd _ _ (by omega) (by omega), e_wrI _ _ _ hi (by omega), e_nm, nI_1])
    N 0 q (by omega) (by omega) (fun j hj => by omega)
  exact main
theorem s_undo {ud np dg t0 : Int32} (hN : 10000 ≤ N) (h : uR ud np dg fd ns ss sc bk) (nt ver : Int32) (ci : Nat → Int64) (sz pg : Nat → Int32) :
    (f_X6_undo ud np nt ver ci sz (nI 14) sc fd ns ss = some (-3, ud, np, nt, ver, ci, sz) ∧ f_X7_undo N t0 dg bk pg = some (-3, 0, dg, pg)) ∨
    ∃ a np' n z G ci' sz' pg', f_X6_undo ud np nt ver ci sz (nI 14) sc fd ns ss = some (a, a, np', nI n, ver + 1, ci', sz') ∧ f_X7_undo N t0 dg bk pg = some (a, 0, a, pg') ∧ aP n z G ∧ cP n z G (nI n) sz' ci' ∧ mP n z G pg' ∧ uR a np' a fd ns ss sc bk := by
  obtain ⟨u, w, hu, hw, rfl, rfl, rfl, hH⟩ := h
  unfold f_X6_undo f_X7_undo
  by_cases q : u = 0
  · subst q
    exact Or.inl ⟨by rw [if_neg (by decide)], by rw [if_neg (fun k => k rfl)]⟩
  · right
    obtain ⟨n, z, G, h1, h2, h3⟩ := hH 0 (by omega)
    rw [show (w + 14 - 0) % 14 = w by omega] at h2
    obtain ⟨ci', sz', f1, f2⟩ := x_fetch (P := 14) hw (by omega) h1 h2 nt ver ci sz
    obtain ⟨g, g1, g2⟩ := m_un27 (bk := bk) (q := pg) hN (d := u - 1) (by omega)
    refine ⟨nI (u - 1), nI ((w + 13) % 14), n, z, G, ci', sz', g, ?_, ?_, h1, f2, mP_ext h1 h3 (fun j hj => ?_), u - 1, (w + 13) % 14, by omega, by omega, rfl, rfl, rfl, fun i hi => ?_⟩
    · rw [if_pos (show 0 < nI u from nI_lt (a := 0) (by omega) (by omega)), show f_X3_fetch (nI 14) 448 sc 14 fd 14 ns 112 ss nt ver ci sz (nI w) = _ from f1, e_b4, n_m1 (by omega), show (14 : Int32) = nI 14 from rfl, nI_add, show nI (w + 14) - 1 = nI (w + 13) from nI_pred (w + 13), pk_rem (by omega) (by omega) (by omega), e_nm, e_nm]
    · rw [if_pos (nI_ne0 (by omega) (by omega)), n_m1 (by omega), e_nm, g1, e_b1, e_u1]
    · rw [g2 j hj, show u - 1 - 0 = u - 1 by omega]
    · obtain ⟨n', z', G', k1, k2, k3⟩ := hH (i + 1) (by omega)
      refine ⟨n', z', G', k1, ?_, ?_⟩
      · rw [show ((w + 13) % 14 + 14 - i) % 14 = (w + 14 - (i + 1)) % 14 by omega]
        exact k2
      · rw [show u - 1 - 1 - i = u - 1 - (i + 1) by omega]
        exact k3
theorem uR_0 {ud np dg : Int32} (h : uR ud np dg fd ns ss sc bk) : uR 0 np 0 fd ns ss sc bk := by
  obtain ⟨u, w, hu, hw, rfl, rfl, rfl, hH⟩ := h
  exact ⟨0, w, by omega, hw, rfl, rfl, rfl, fun i hi => by omega⟩
/-- the two slots -/
def kR (fd ns ss : Nat → Int32) (sc : Nat → Int64) (ik kp : Nat → Int32) : Prop := ∀ s, s < 2 → (fd s = 0 ∧ ik s = 0) ∨ (fd s = 1 ∧ ik s = 1 ∧ ∃ n z G, aP n z G ∧ shP n z G fd ns ss sc s ∧ mP n z G (fun j => kp (265 * s + j)))
end
