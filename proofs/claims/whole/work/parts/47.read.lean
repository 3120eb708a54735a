/-! the text read as a paper, by both -/
theorem lc_m1 : lg_cmp (-1 : Int64) (-1) = 0 := by decide
theorem lc_en {F : Nat → Nat} (h : vF F) : ¬ lg_cmp (lN (en F)) (-1) = 0 := by
  unfold lg_cmp
  have h1 := en_lt h
  have : (-1 : Int64) < lN (en F) := by
    rw [fa_lt64, pf_lI (by omega), show ((-1 : Int64)).toInt = -1 from by decide]
    omega
  rw [if_pos this]
  decide
theorem cl_bad {len : Nat} {tx : Nat → Int32} (h : tOK len tx) {k x2 m : Nat} (hk : k ≤ len) (hx : x2 < 32) {nt ver : Int32} {ci : Nat → Int64} {sz : Nat → Int32} (hst : (rfS len tx k).1 ≠ 1) :
    lp_X5_readInto_29 (nI len) tx (m + 1) (nI x2) (nI k) (cu len tx k) nt ver ci sz = some (.inl (nI (rfS len tx k).2.2, cu len tx (rfS len tx k).2.2, nt, ver, ci, sz)) := by
  have hl := h.1
  rw [lp_X5_readInto_29, show (32 : Int32) = nI 32 from rfl, if_neg (nI_ge hx (by omega)), t_cite h (by omega)]
  unfold cA
  rw [e_b3, if_neg hst, if_neg (fun z => z lc_m1)]
theorem cl_ok {len : Nat} {tx : Nat → Int32} (h : tOK len tx) {k x2 m n s q : Nat} {F : Nat → Nat} (hk : k ≤ len) (hx : x2 < 32) {ver : Int32} {ci : Nat → Int64} {sz : Nat → Int32} (h1 : 1 ≤ n) (h8 : n ≤ 8) (hs : sz (n - 1) = nI s) (h4 : s < 4) (hF : vF F) (ho : rfS len tx k = (1, F, q)) (hq : q ≤ len) :
    lp_X5_readInto_29 (nI len) tx (m + 1) (nI x2) (nI k) (cu len tx k) (nI n) ver ci sz =
      (if q = len then some (.inr (.inl (nI q, cu len tx q, nI n, ver + 1, vp_updL ci (4 * (n - 1) + s) (lN (en F)), upd sz (n - 1) (nI (s + 1)))))
      else if cu len tx q = 44 ∧ s + 1 < 4 then lp_X5_readInto_29 (nI len) tx m (nI (x2 + 1)) (nI (q + 1)) (cu len tx (q + 1)) (nI n) (ver + 1) (vp_updL ci (4 * (n - 1) + s) (lN (en F))) (upd sz (n - 1) (nI (s + 1)))
      else if cu len tx q = 59 ∧ n < 8 then lp_X5_readInto_29 (nI len) tx m (nI (x2 + 1)) (nI (q + 1)) (cu len tx (q + 1)) (nI (n + 1)) (ver + 1 + 1) (vp_updL ci (4 * (n - 1) + s) (lN (en F))) (upd (upd sz (n - 1) (nI (s + 1))) n 0)
      else some (.inr (.inr (.inl (nI q, cu len tx q, nI n, ver + 1, vp_updL ci (4 * (n - 1) + s) (lN (en F)), upd sz (n - 1) (nI (s + 1))))))) := by
  have hl := h.1
  rw [lp_X5_readInto_29, show (32 : Int32) = nI 32 from rfl, if_neg (nI_ge hx (by omega)), t_cite h (by omega), ho]
  unfold cA
  simp only [if_true]
  rw [e_b3, if_pos (lc_en hF), x_add h1 h8 hs h4, e_b3]
  have hj : ∀ (s0 : Int32), (s0 = 0 ∨ s0 = 1) → (s0 = 1 → cu len tx q = 44) → q < len →
      j_X5_readInto_100 (lp_X5_readInto_29 (nI len) tx m) (nI len) tx (nI x2) s0 (nI q) (cu len tx q) (nI n) (ver + 1) (vp_updL ci (4 * (n - 1) + s) (lN (en F))) (upd sz (n - 1) (nI (s + 1))) =
      (if s0 = 1 then lp_X5_readInto_29 (nI len) tx m (nI (x2 + 1)) (nI (q + 1)) (cu len tx (q + 1)) (nI n) (ver + 1) (vp_updL ci (4 * (n - 1) + s) (lN (en F))) (upd sz (n - 1) (nI (s + 1)))
      else if cu len tx q = 59 ∧ n < 8 then lp_X5_readInto_29 (nI len) tx m (nI (x2 + 1)) (nI (q + 1)) (cu len tx (q + 1)) (nI (n + 1)) (ver + 1 + 1) (vp_updL ci (4 * (n - 1) + s) (lN (en F))) (upd (upd sz (n - 1) (nI (s + 1))) n 0)
      else some (.inr (.inr (.inl (nI q, cu len tx q, nI n, ver + 1, vp_updL ci (4 * (n - 1) + s) (lN (en F)), upd sz (n - 1) (nI (s + 1))))))) := by
    intro s0 h01 h44 hql
    unfold j_X5_readInto_100 j_X5_readInto_142
    rcases h01 with rfl | rfl
    · rw [if_neg (show ¬ (0 : Int32) = 1 by decide)]
      by_cases c59 : cu len tx q = 59
      · rw [if_neg (fun z => z c59)]
        unfold f_X1_notes
        rw [e_b1]
        by_cases c8 : n < 8
        · rw [show (8 : Int32) = nI 8 from rfl, if_neg (nI_ge c8 (by omega)), if_neg (fun z => z rfl), if_pos (by decide), if_neg (by decide), x_open c8, e_b3, t_adv h q (by omega), e_b2, e_nm, nI_1, if_pos ⟨c59, c8⟩]
        · rw [show (8 : Int32) = nI 8 from rfl, if_pos (nI_le (by omega) (by omega)), if_neg (fun z => z rfl), if_neg (fun z => z rfl), if_neg (fun z => c8 z.2)]
      · rw [if_pos c59, if_neg (fun z => z rfl), if_neg (fun z => z rfl), if_neg (fun z => c59 z.1)]
    · have c44 := h44 rfl
      have n59 : ¬ cu len tx q = 59 := by rw [c44]; decide
      rw [if_pos n59, if_pos (by decide), if_pos rfl, t_adv h q (by omega), e_b2, e_nm, nI_1, if_pos rfl]
  by_cases ce : q = len
  · rw [if_pos ce, if_neg (show ¬ ¬ nI q = nI len from fun z => z (by rw [ce]))]
  · rw [if_neg ce, if_pos (show ¬ nI q = nI len from fun z => ce ((nI_eq (by omega) (by omega)).mp z))]
    by_cases c44 : cu len tx q = 44
    · rw [if_neg (show ¬ ¬ cu len tx q = 44 from fun z => z c44)]
      unfold f_X1_notes
      rw [e_b1, n_m1 h1, x_size (by omega) h8, upd_s, e_b1]
      by_cases c4 : s + 1 < 4
      · rw [show (4 : Int32) = nI 4 from rfl, if_neg (nI_ge c4 (by omega)), hj 1 (Or.inr rfl) (fun _ => c44) (by omega), if_pos rfl, if_pos ⟨c44, c4⟩]
      · rw [show (4 : Int32) = nI 4 from rfl, if_pos (nI_le (by omega) (by omega)), hj 0 (Or.inl rfl) (fun z => absurd z (by decide)) (by omega), if_neg (show ¬ (0 : Int32) = 1 by decide), if_neg (show ¬ (cu len tx q = 44 ∧ s + 1 < 4) from fun z => c4 z.2)]
    · rw [if_pos c44, hj 0 (Or.inl rfl) (fun z => absurd z (by decide)) (by omega), if_neg (show ¬ (0 : Int32) = 1 by decide), if_neg (show ¬ (cu len tx q = 44 ∧ s + 1 < 4) from fun z => c44 z.1)]
/-! the reference's steps -/
theorem mo_at {n s : Nat} : (9 : Int32) + 8 * (4 * nI n + nI s) = nI (9 + 8 * (4 * n + s)) := by
  rw [show (9 : Int32) = nI 9 from rfl, show (8 : Int32) = nI 8 from rfl, show (4 : Int32) = nI 4 from rfl, pk_mul, nI_add, pk_mul, nI_add]
theorem mo_bad {len : Nat} {tx : Nat → Int32} (h : tOK len tx) {k m N n s : Nat} (hk : k ≤ len) (hN : 10 ≤ N) {rp : Nat → Int32} (h1 : 1 ≤ n) (h8 : n ≤ 8) (h0 : rp 0 = nI n) (hs : rp (1 + (n - 1)) = nI s) (h4 : s < 4) (hst : (rfS len tx k).1 = 0) :
    ∃ g, lp_X7_readPaper_38 N (nI len) tx (m + 1) 1 (nI k) rp = some (.inl (nI (rfS len tx k).2.2, g)) := by
  obtain ⟨g, hg, -, -⟩ := m_ref h (a := 9 + 8 * (4 * (n - 1) + s)) hk (by omega) hN rp
  refine ⟨g, ?_⟩
  rw [lp_X7_readPaper_38, if_neg (by decide), show (0 : Int32) = nI 0 from rfl, e_rd _ _ (by omega) (by omega), h0, e_nm, n_m1 h1, show (1 : Int32) + nI (n - 1) = nI (1 + (n - 1)) from a_add 1 _, e_rd _ _ (by omega) (by omega), hs, mo_at, hg, e_b3, if_pos hst, if_neg (fun z => z rfl)]
theorem mo_ok {len : Nat} {tx : Nat → Int32} (h : tOK len tx) {k m N n s q st : Nat} {F : Nat → Nat} (hk : k ≤ len) (hN : 10 ≤ N) {rp : Nat → Int32} (h1 : 1 ≤ n) (h8 : n ≤ 8) (h0 : rp 0 = nI n) (hs : rp (1 + (n - 1)) = nI s) (h4 : s < 4) (hst : st ≠ 0) (ho : rfS len tx k = (st, F, q)) (hq : q ≤ len) :
    ∃ g, fr8 g rp (9 + 8 * (4 * (n - 1) + s)) ∧ (st = 1 → rec8 g rp (9 + 8 * (4 * (n - 1) + s)) F) ∧ lp_X7_readPaper_38 N (nI len) tx (m + 2) 1 (nI k) rp =
      (if cu len tx q = 44 ∧ s + 1 < 4 then lp_X7_readPaper_38 N (nI len) tx (m + 1) 1 (nI (q + 1)) (upd g (1 + (n - 1)) (nI (s + 1)))
      else if cu len tx q = 59 ∧ n < 8 then lp_X7_readPaper_38 N (nI len) tx (m + 1) 1 (nI (q + 1)) (upd (upd (upd g (1 + (n - 1)) (nI (s + 1))) (1 + n) 0) 0 (nI (n + 1)))
      else some (.inr (nI q, upd g (1 + (n - 1)) (nI (s + 1))))) := by
  have hl := h.1
  obtain ⟨g, hg, hf, hr⟩ := m_ref h (a := 9 + 8 * (4 * (n - 1) + s)) hk (by omega) hN rp
  rw [ho] at hg hr
  simp only at hg hr
  refine ⟨g, hf, hr, ?_⟩
  have stop : lp_X7_readPaper_38 N (nI len) tx (m + 1) 0 (nI q) (upd g (1 + (n - 1)) (nI (s + 1))) = some (.inr (nI q, upd g (1 + (n - 1)) (nI (s + 1)))) := by
    rw [lp_X7_readPaper_38, if_pos rfl]
  have g0 : upd g (1 + (n - 1)) (nI (s + 1)) 0 = nI n := by rw [upd_n _ _ (by omega), hf 0 (by omega), h0]
  have hj : j_X7_readPaper_131 (lp_X7_readPaper_38 N (nI len) tx (m + 1)) (nI len) tx 0 (nI q) (upd g (1 + (n - 1)) (nI (s + 1))) =
      (if cu len tx q = 59 ∧ n < 8 then lp_X7_readPaper_38 N (nI len) tx (m + 1) 1 (nI (q + 1)) (upd (upd (upd g (1 + (n - 1)) (nI (s + 1))) (1 + n) 0) 0 (nI (n + 1)))
      else some (.inr (nI q, upd g (1 + (n - 1)) (nI (s + 1))))) := by
    unfold j_X7_readPaper_131
    rw [m_next h (by omega), e_b1]
    by_cases c59 : cu len tx q = 59
    · rw [if_neg (show ¬ ¬ cu len tx q = 59 from fun z => z c59), show pn_rd 265 (upd g (1 + (n - 1)) (nI (s + 1))) 0 = pn_rd 265 (upd g (1 + (n - 1)) (nI (s + 1))) (nI 0) from rfl, e_rd _ _ (by omega) (by omega), g0]
      by_cases c8 : n < 8
      · rw [show (8 : Int32) = nI 8 from rfl, if_neg (nI_ge c8 (by omega)), e_nm, nI_1, e_rd _ _ (by omega) (by omega), g0, show (1 : Int32) + nI n = nI (1 + n) from a_add 1 n, e_wrI _ _ _ (by omega) (by omega),
          show ∀ (f : Nat → Int32), pn_rd (α := Int32) (β := (Int32 × (Nat → Int32)) ⊕ (Int32 × (Nat → Int32))) 265 f 0 = pn_rd 265 f (nI 0) from fun _ => rfl, e_rd _ _ (by omega) (by omega), upd_n _ _ (show (0 : Nat) ≠ 1 + n by omega), g0, nI_1,
          show ∀ (f : Nat → Int32) (x : Int32), pn_wrI (β := (Int32 × (Nat → Int32)) ⊕ (Int32 × (Nat → Int32))) 265 f 0 x = pn_wrI 265 f (nI 0) x from fun _ _ => rfl, e_wrI _ _ _ (by omega) (by omega), if_pos ⟨c59, c8⟩]
      · rw [show (8 : Int32) = nI 8 from rfl, if_pos (nI_le (by omega) (by omega)), stop, if_neg (fun z => c8 z.2)]
    · rw [if_pos c59, stop, if_neg (fun z => c59 z.1)]
  rw [lp_X7_readPaper_38, if_neg (by decide), show pn_rd 265 rp 0 = pn_rd 265 rp (nI 0) from rfl, e_rd _ _ (by omega) (by omega), h0, e_nm, n_m1 h1, show (1 : Int32) + nI (n - 1) = nI (1 + (n - 1)) from a_add 1 _, e_rd _ _ (by omega) (by omega), hs, mo_at, hg, e_b3, if_neg hst, if_pos (by decide),
    e_rd _ _ (by omega) (by omega), hf _ (by omega), hs, nI_1, e_wrI _ _ _ (by omega) (by omega), m_next h (by omega), e_b1]
  by_cases c44 : cu len tx q = 44
  · rw [if_neg (show ¬ ¬ cu len tx q = 44 from fun z => z c44), e_rd _ _ (by omega) (by omega), upd_s]
    by_cases c4 : s + 1 < 4
    · rw [show (4 : Int32) = nI 4 from rfl, if_neg (nI_ge c4 (by omega)), e_nm, nI_1, if_pos ⟨c44, c4⟩]
    · rw [show (4 : Int32) = nI 4 from rfl, if_pos (nI_le (by omega) (by omega)), hj, if_neg (show ¬ (cu len tx q = 44 ∧ s + 1 < 4) from fun z => c4 z.2)]
  · rw [if_pos c44, hj, if_neg (show ¬ (cu len tx q = 44 ∧ s + 1 < 4) from fun z => c44 z.1)]
theorem rd_loop {len : Nat} {tx : Nat → Int32} (h : tOK len tx) {N : Nat} (hN : 10 ≤ N) : ∀ (c m1 m2 x2 k n : Nat) (z : Nat → Nat) (G : Nat → Nat → Nat) (ver : Int32) (ci : Nat → Int64) (sz rp : Nat → Int32),
    x2 + c = 32 → c < m1 → c + 1 < m2 → k ≤ len → aQ n z G → z (n - 1) < 4 → x2 ≤ 4 * (n - 1) + z (n - 1) → cP n z G (nI n) sz ci → mP n z G rp →
    ∃ (fa : Int32) (q vc n' : Nat) (z' : Nat → Nat) (G' : Nat → Nat → Nat) (ci' : Nat → Int64) (sz' rp' : Nat → Int32), vc ≤ 2 * c ∧ q ≤ len ∧
      ((lp_X5_readInto_29 (nI len) tx m1 (nI x2) (nI k) (cu len tx k) (nI n) ver ci sz = some (.inl (nI q, cu len tx q, nI n', ver + nI vc, ci', sz')) ∧ fa = nI q) ∨
        (lp_X5_readInto_29 (nI len) tx m1 (nI x2) (nI k) (cu len tx k) (nI n) ver ci sz = some (.inr (.inl (nI q, cu len tx q, nI n', ver + nI vc, ci', sz'))) ∧ fa = -9) ∨
        (lp_X5_readInto_29 (nI len) tx m1 (nI x2) (nI k) (cu len tx k) (nI n) ver ci sz = some (.inr (.inr (.inl (nI q, cu len tx q, nI n', ver + nI vc, ci', sz')))) ∧ fa = nI q)) ∧
      ((lp_X7_readPaper_38 N (nI len) tx m2 1 (nI k) rp = some (.inl (nI q, rp')) ∧ fa = nI q) ∨ (lp_X7_readPaper_38 N (nI len) tx m2 1 (nI k) rp = some (.inr (nI q, rp')) ∧ ((q = len ∧ fa = -9) ∨ (q ≠ len ∧ fa = nI q)))) ∧
      (fa = -9 → aP n' z' G' ∧ 1 ≤ n' ∧ cP n' z' G' (nI n') sz' ci' ∧ mP n' z' G' rp') := by
  have hl := h.1
  intro c
  induction c with
  | zero =>
    intro m1 m2 x2 k n z G ver ci sz rp hx h1 h2 hk ha h4 hx2 hc hm
    have := ha.2.1
    have := ha.1
    omega
  | succ c ih =>
    intro m1 m2 x2 k n z G ver ci sz rp hx h1 h2 hk ha h4 hx2 hc hm
    obtain ⟨hok, hgo, htw⟩ := rf_ok (tx := tx) hk
    obtain ⟨m1, rfl⟩ : ∃ j, m1 = j + 1 := ⟨m1 - 1, by omega⟩
    obtain ⟨m2, rfl⟩ : ∃ j, m2 = j + 2 := ⟨m2 - 2, by omega⟩
    have n1 := ha.1
    have n8 := ha.2.1
    have hsz := (hc.2 (n - 1) (by omega)).1
    have hrs := (hm.2 (n - 1) (by omega)).1
    obtain ⟨st, F, q, ho⟩ : ∃ st F q, rfS len tx k = (st, F, q) := ⟨_, _, _, rfl⟩
    rw [ho] at hok hgo htw
    unfold oK at hok
    simp only at hok hgo htw
    have hq : q ≤ len := hok.2.1
    have nq : ¬ nI q = (-9 : Int32) := n_m9 (by omega)
    by_cases s1 : st = 1
    · subst s1
      have hF := hok.2.2.2 rfl
      have hkq := hgo rfl
      rw [cl_ok h hk (by omega) n1 n8 hsz h4 hF ho hq]
      obtain ⟨g, hfr, hrec, hmo⟩ := mo_ok h (m := m2) hk hN n1 n8 hm.1 hrs h4 (by decide) ho hq
      rw [hmo]
      have hg := hrec rfl
      have aq' := aQ_add ha rfl h4 hF
      have cp' := cP_add (F := F) ha hc rfl h4
      have mp' := mP_add ha hm rfl h4 hg
      have zl : zu z (n - 1) (z (n - 1) + 1) (n - 1) = z (n - 1) + 1 := zu_s _ _ _
      have v1 : ver + 1 = ver + nI 1 := rfl
      by_cases ce : q = len
      · have e9 : cu len tx q = -9 := cu_out (by omega)
        rw [if_pos ce, if_neg (by rw [e9]; exact fun w => absurd w.1 (by decide)), if_neg (by rw [e9]; exact fun w => absurd w.1 (by decide))]
        exact ⟨-9, q, 1, n, _, _, _, _, _, by omega, hq, Or.inr (Or.inl ⟨rfl, rfl⟩), Or.inr ⟨rfl, Or.inl ⟨ce, rfl⟩⟩, fun _ => ⟨aQ_aP aq' (by rw [zl]; omega), n1, cp', mp'⟩⟩
      · rw [if_neg ce]
        by_cases c44 : cu len tx q = 44 ∧ z (n - 1) + 1 < 4
        · rw [if_pos c44, if_pos c44]
          obtain ⟨fa, q', vc, n', z', G', ci', sz', rp', i1, i2, i3, i4, i5⟩ := ih m1 (m2 + 1) (x2 + 1) (q + 1) n _ _ (ver + 1) _ _ _ (by omega) (by omega) (by omega) (by omega) aq' (by rw [zl]; omega) (by rw [zl]; omega) cp' mp'
          refine ⟨fa, q', vc + 1, n', z', G', ci', sz', rp', by omega, i2, ?_, i4, i5⟩
          have e : ver + 1 + nI vc = ver + nI (vc + 1) := by rw [Int32.add_assoc, show (1 : Int32) + nI vc = nI (1 + vc) from a_add 1 vc, Nat.add_comm]
          rw [e] at i3
          exact i3
        · rw [if_neg c44, if_neg c44]
          by_cases c59 : cu len tx q = 59 ∧ n < 8
          · rw [if_pos c59, if_pos c59]
            have aq2 := aQ_open aq' (by rw [zl]; omega) c59.2
            have cp2 := cP_open cp'
            have mp2 := mP_open c59.2 mp'
            have zl2 : zu (zu z (n - 1) (z (n - 1) + 1)) n 0 (n + 1 - 1) = 0 := by rw [show n + 1 - 1 = n by omega]; exact zu_s _ _ _
            obtain ⟨fa, q', vc, n', z', G', ci', sz', rp', i1, i2, i3, i4, i5⟩ := ih m1 (m2 + 1) (x2 + 1) (q + 1) (n + 1) _ _ (ver + 1 + 1) _ _ _ (by omega) (by omega) (by omega) (by omega) aq2 (by rw [zl2]; omega) (by rw [zl2]; omega) cp2 mp2
            refine ⟨fa, q', vc + 2, n', z', G', ci', sz', rp', by omega, i2, ?_, i4, i5⟩
            have e : ver + 1 + 1 + nI vc = ver + nI (vc + 2) := by rw [Int32.add_assoc, Int32.add_assoc, show (1 : Int32) + nI vc = nI (1 + vc) from a_add 1 vc, show (1 : Int32) + nI (1 + vc) = nI (1 + (1 + vc)) from a_add 1 _, show 1 + (1 + vc) = vc + 2 by omega]
            rw [e] at i3
            exact i3
          · rw [if_neg c59, if_neg c59]
            exact ⟨nI q, q, 1, n, z, G, _, _, _, by omega, hq, Or.inr (Or.inr ⟨rfl, rfl⟩), Or.inr ⟨rfl, Or.inr ⟨ce, rfl⟩⟩, fun w => absurd w nq⟩
    · have cb := cl_bad h (m := m1) (nt := nI n) (ver := ver) (ci := ci) (sz := sz) hk (show x2 < 32 by omega) (by rw [ho]; exact s1)
      rw [ho] at cb
      by_cases s0 : st = 0
      · obtain ⟨g, hg⟩ := mo_bad h (m := m2 + 1) hk hN n1 n8 hm.1 hrs h4 (by rw [ho]; exact s0)
        rw [ho] at hg
        exact ⟨nI q, q, 0, n, z, G, ci, sz, g, by omega, hq, Or.inl ⟨by rw [cb, show ver + nI 0 = ver from Int32.add_zero ver], rfl⟩, Or.inl ⟨hg, rfl⟩, fun w => absurd w nq⟩
      · have s2 : st = 2 := by omega
        have hlet := htw s2
        obtain ⟨g, hfr, hrec, hmo⟩ := mo_ok h (m := m2) hk hN n1 n8 hm.1 hrs h4 s0 ho hq
        have n44 : ¬ cu len tx q = 44 := cv_not (c := 44) hlet (by decide) (by omega) (by decide)
        have n59 : ¬ cu len tx q = 59 := cv_not (c := 59) hlet (by decide) (by omega) (by decide)
        have lq := cu_lt hlet
        rw [if_neg (fun w => n44 w.1), if_neg (fun w => n59 w.1)] at hmo
        exact ⟨nI q, q, 0, n, z, G, ci, sz, _, by omega, hq, Or.inl ⟨by rw [cb, show ver + nI 0 = ver from Int32.add_zero ver], rfl⟩, Or.inr ⟨hmo, Or.inr ⟨by omega, rfl⟩⟩, fun w => absurd w nq⟩
/-- the whole reading: the same fault, and without one the same paper -/
theorem readJ {len : Nat} {tx : Nat → Int32} (h : tOK len tx) {N : Nat} (hN : 40 ≤ N) (pl sg nt ver pl2 : Int32) (ci : Nat → Int64) (sz rp : Nat → Int32) :
    ∃ (fa : Int32) (q vc n : Nat) (z : Nat → Nat) (G : Nat → Nat → Nat) (ci' : Nat → Int64) (sz' rp' : Nat → Int32) (sg' : Int32), vc ≤ 70 ∧
      f_X5_readInto N (nI len) pl sg tx nt ver ci sz = some (fa, nI q, sg', nI n, ver + nI vc, ci', sz') ∧
      f_X7_readPaper N (nI len) pl2 rp tx = some (fa, nI q, rp') ∧ (fa = -9 ∨ ∃ f, f ≤ 120 ∧ fa = nI f) ∧
      (fa = -9 → aP n z G ∧ cP n z G (nI n) sz' ci' ∧ mP n z G rp') := by
  have hl := h.1
  unfold f_X5_readInto f_X7_readPaper f_X1_clear
  rw [t_adv0 h, e_b2, e_nm, e_b2]
  by_cases l0 : len = 0
  · subst l0
    refine ⟨-9, 0, 1, 0, fun _ => 0, fun _ _ => 0, ci, sz, upd rp 0 0, cu 0 tx 0, by omega, ?_, ?_, Or.inl rfl, fun _ => ⟨⟨by omega, fun k hk => by omega⟩, ⟨rfl, fun k hk => by omega⟩, ⟨rfl, fun k hk => by omega⟩⟩⟩
    · rw [if_neg (fun z => z rfl)]; rfl
    · rw [show pn_wrI (β := Int32 × Int32 × (Nat → Int32)) 265 rp 0 0 = pn_wrI 265 rp (nI 0) 0 from rfl, e_wrI _ _ _ (by omega) (by omega), if_neg (fun z => z rfl)]; rfl
  · have nl : ¬ nI len = 0 := nI_ne0 (by omega) (by omega)
    have ha : aQ 1 (fun _ => 0) (fun _ _ => 0) := ⟨by omega, by omega, fun k _ => ⟨Nat.zero_le _, fun j hj => absurd hj (Nat.not_lt_zero j)⟩, fun k hk => by omega⟩
    have hc : cP 1 (fun _ => 0) (fun _ _ => 0) (nI 1) (upd sz 0 0) ci := ⟨rfl, fun k hk => by
      rw [show k = 0 by omega, upd_s]; exact ⟨rfl, fun j hj => absurd hj (Nat.not_lt_zero j)⟩⟩
    have hm : mP 1 (fun _ => 0) (fun _ _ => 0) (upd (upd (upd rp 0 0) 0 1) 1 0) := ⟨rfl, fun k hk => by
      rw [show k = 0 by omega]; exact ⟨rfl, fun j hj => absurd hj (Nat.not_lt_zero j)⟩⟩
    obtain ⟨fa, q, vc, n, z, G, ci', sz', rp', i1, i2, i3, i4, i5⟩ := rd_loop h (N := N) (by omega) 32 N N 0 0 1 _ _ (ver + 1 + 1) ci _ _ (by omega) (by omega) (by omega) (by omega) ha (by omega) (by omega) hc hm
    have ev : ver + 1 + 1 + nI vc = ver + nI (vc + 2) := by rw [Int32.add_assoc, Int32.add_assoc, show (1 : Int32) + nI vc = nI (1 + vc) from a_add 1 vc, show (1 : Int32) + nI (1 + vc) = nI (1 + (1 + vc)) from a_add 1 _, show 1 + (1 + vc) = vc + 2 by omega]
    rw [ev] at i3
    refine ⟨fa, q, vc + 2, n, z, G, ci', sz', rp', cu len tx q, by omega, ?_, ?_, ?_, fun w => ⟨(i5 w).1, (i5 w).2.2.1, (i5 w).2.2.2⟩⟩
    · rw [if_pos nl, show (0 : Int32) = nI 0 from rfl, x_open (by omega), e_b3]
      rcases i3 with ⟨e, rfl⟩ | ⟨e, rfl⟩ | ⟨e, rfl⟩
      · rw [show lp_X5_readInto_29 (nI len) tx N (nI 0) (nI 0) (cu len tx 0) (nI (0 + 1)) (ver + 1 + 1) ci (upd sz 0 0) = _ from e, e_b1, e_s2l, e_u6]
      · rw [show lp_X5_readInto_29 (nI len) tx N (nI 0) (nI 0) (cu len tx 0) (nI (0 + 1)) (ver + 1 + 1) ci (upd sz 0 0) = _ from e, e_b1, e_s2r, e_s2l, e_u6]
      · rw [show lp_X5_readInto_29 (nI len) tx N (nI 0) (nI 0) (cu len tx 0) (nI (0 + 1)) (ver + 1 + 1) ci (upd sz 0 0) = _ from e, e_b1, e_s2r, e_s2r, e_s2l, e_u6]
    · rw [show pn_wrI (β := Int32 × Int32 × (Nat → Int32)) 265 rp 0 0 = pn_wrI 265 rp (nI 0) 0 from rfl, e_wrI _ _ _ (by omega) (by omega), if_pos nl,
        show ∀ f x, pn_wrI (β := Int32 × Int32 × (Nat → Int32)) 265 f 0 x = pn_wrI 265 f (nI 0) x from fun _ _ => rfl, e_wrI _ _ _ (by omega) (by omega),
        show ∀ f x, pn_wrI (β := Int32 × Int32 × (Nat → Int32)) 265 f 1 x = pn_wrI 265 f (nI 1) x from fun _ _ => rfl, e_wrI _ _ _ (by omega) (by omega)]
      rcases i4 with ⟨e, rfl⟩ | ⟨e, ⟨hq, rfl⟩ | ⟨hq, rfl⟩⟩
      · rw [show lp_X7_readPaper_38 N (nI len) tx N 1 0 (upd (upd (upd rp 0 0) 0 1) 1 0) = _ from e, e_b1, e_s2l, e_u2]
      · rw [show lp_X7_readPaper_38 N (nI len) tx N 1 0 (upd (upd (upd rp 0 0) 0 1) 1 0) = _ from e, e_b1, e_s2r, e_u2, if_neg (fun w => w (by rw [hq]))]
      · rw [show lp_X7_readPaper_38 N (nI len) tx N 1 0 (upd (upd (upd rp 0 0) 0 1) 1 0) = _ from e, e_b1, e_s2r, e_u2, if_pos (fun w => hq ((nI_eq (by omega) (by omega)).mp w))]
    · rcases i3 with ⟨-, rfl⟩ | ⟨-, rfl⟩ | ⟨-, rfl⟩
      · exact Or.inr ⟨q, by omega, rfl⟩
      · exact Or.inl rfl
      · exact Or.inr ⟨q, by omega, rfl⟩
