/-! the text read as a paper, by both -/
theorem lc_m1 : lg_cmp (-1 : Int64) (-1) = 0 := by decide
theorem lc_en {F : Nat → Nat} (h : vF F) : ¬ lg_cmp (lN (en F)) (-1) = 0 := by
  unfold lg_cmp
  have h1 := en_lt h
  have : (-1 : Int64) < lN (en F) := by
    rw [fa_lt64, pf_lI (by omega), show ((-1 : Int64)).toInt = -1 from by decide]
    omega
  rw [if_pos this]
  decide
theorem cl_bad {len : Nat} {tx : Nat → Int32} (h : tOK len tx) {k x2 m : Nat} (hk : k ≤ len) (hx : x2 < 32) {nt ver : Int32} {ci : Nat → Int64} {sz : Nat → Int32} (hst : (rfS len tx k).1 ≠ 1) :
    lp_X5_readInto_29 (nI len) tx (m + 1) (nI x2) (nI k) (cu len tx k) nt ver ci sz = some (.inl (nI (rfS len tx k).2.2, cu len tx (rfS len tx k).2.2, nt, ver, ci, sz)) := by
  have hl := h.1
  rw [lp_X5_readInto_29, show (32 : Int32) = nI 32 from rfl, if_neg (nI_ge hx (by omega)), t_cite h (by omega)]
  unfold cA
  rw [e_b3, if_neg hst, if_neg (fun z => z lc_m1)]
theorem cl_ok {len : Nat} {tx : Nat → Int32} (h : tOK len tx) {k x2 m n s q : Nat} {F : Nat → Nat} (hk : k ≤ len) (hx : x2 < 32) {ver : Int32} {ci : Nat → Int64} {sz : Nat → Int32} (h1 : 1 ≤ n) (h8 : n ≤ 8) (hs : sz (n - 1) = nI s) (h4 : s < 4) (hF : vF F) (ho : rfS len tx k = (1, F, q)) (hq : q ≤ len) :
    lp_X5_readInto_29 (nI len) tx (m + 1) (nI x2) (nI k) (cu len tx k) (nI n) ver ci sz =
      (if q = len then some (.inr (.inl (nI q, cu len tx q, nI n, ver + 1, vp_updL ci (4 * (n - 1) + s) (lN (en F)), upd sz (n - 1) (nI (s + 1)))))
      else if cu len tx q = 44 ∧ s + 1 < 4 then lp_X5_readInto_29 (nI len) tx m (nI (x2 + 1)) (nI (q + 1)) (cu len tx (q + 1)) (nI n) (ver + 1) (vp_updL ci (4 * (n - 1) + s) (lN (en F))) (upd sz (n - 1) (nI (s + 1)))
      else if cu len tx q = 59 ∧ n < 8 then lp_X5_readInto_29 (nI len) tx m (nI (x2 + 1)) (nI (q + 1)) (cu len tx (q + 1)) (nI (n + 1)) (ver + 1 + 1) (vp_updL ci (4 * (n - 1) + s) (lN (en F))) (upd (upd sz (n - 1) (nI (s + 1))) n 0)
      else some (.inr (.inr (.inl (nI q, cu len tx q, nI n, ver + 1, vp_updL ci (4 * (n - 1) + s) (lN (en F)), upd sz (n - 1) (nI (s + 1))))))) := by
  have hl := h.1
  rw [lp_X5_readInto_29, show (32 : Int32) = nI 32 from rfl, if_neg (nI_ge hx (by omega)), t_cite h (by omega), ho]
  unfold cA
  simp only [if_true]
  rw [e_b3, if_pos (lc_en hF), x_add h1 h8 hs h4, e_b3]
  have hj : ∀ (s0 : Int32), (s0 = 0 ∨ s0 = 1) → (s0 = 1 → cu len tx q = 44) → q < len →
      j_X5_readInto_100 (lp_X5_readInto_29 (nI len) tx m) (nI len) tx (nI x2) s0 (nI q) (cu len tx q) (nI n) (ver + 1) (vp_updL ci (4 * (n - 1) + s) (lN (en F))) (upd sz (n - 1) (nI (s + 1))) =
      (if s0 = 1 then lp_X5_readInto_29 (nI len) tx m (nI (x2 + 1)) (nI (q + 1)) (cu len tx (q + 1)) (nI n) (ver + 1) (vp_updL ci (4 * (n - 1) + s) (lN (en F))) (upd sz (n - 1) (nI (s + 1)))
      else if cu len tx q = 59 ∧ n < 8 then lp_X5_readInto_29 (nI len) tx m (nI (x2 + 1)) (nI (q + 1)) (cu len tx (q + 1)) (nI (n + 1)) (ver + 1 + 1) (vp_updL ci (4 * (n - 1) + s) (lN (en F))) (upd (upd sz (n - 1) (nI (s + 1))) n 0)
      else some (.inr (.inr (.inl (nI q, cu len tx q, nI n, ver + 1, vp_updL ci (4 * (n - 1) + s) (lN (en F)), upd sz (n - 1) (nI (s + 1))))))) := by
    intro s0 h01 h44 hql
    unfold j_X5_readInto_100 j_X5_readInto_142
    rcases h01 with rfl | rfl
    · rw [if_neg (show ¬ (0 : Int32) = 1 by decide)]
      by_cases c59 : cu len tx q = 59
      · rw [if_neg (fun z => z c59)]
        unfold f_X1_notes
        rw [e_b1]
        by_cases c8 : n < 8
        · rw [show (8 : Int32) = nI 8 from rfl, if_neg (nI_ge c8 (by omega)), if_neg (fun z => z rfl), if_pos (by decide), if_neg (by decide), x_open c8, e_b3, t_adv h q (by omega), e_b2, e_nm, nI_1, if_pos ⟨c59, c8⟩]
        · rw [show (8 : Int32) = nI 8 from rfl, if_pos (nI_le (by omega) (by omega)), if_neg (fun z => z rfl), if_neg (fun z => z rfl), if_neg (fun z => c8 z.2)]
      · rw [if_pos c59, if_neg (fun z => z rfl), if_neg (fun z => z rfl), if_neg (fun z => c59 z.1)]
    · have c44 := h44 rfl
      have n59 : ¬ cu len tx q = 59 := by rw [c44]; decide
      rw [if_pos n59, if_pos (by decide), if_pos rfl, t_adv h q (by omega), e_b2, e_nm, nI_1, if_pos rfl]
  by_cases ce : q = len
  · rw [if_pos ce, if_neg (show ¬ ¬ nI q = nI len from fun z => z (by rw [ce]))]
  · rw [if_neg ce, if_pos (show ¬ nI q = nI len from fun z => ce ((nI_eq (by omega) (by omega)).mp z))]
    by_cases c44 : cu len tx q = 44
    · rw [if_neg (show ¬ ¬ cu len tx q = 44 from fun z => z c44)]
      unfold f_X1_notes
      rw [e_b1, n_m1 h1, x_size (by omega) h8, upd_s, e_b1]
      by_cases c4 : s + 1 < 4
      · rw [show (4 : Int32) = nI 4 from rfl, if_neg (nI_ge c4 (by omega)), hj 1 (Or.inr rfl) (fun _ => c44) (by omega), if_pos rfl, if_pos ⟨c44, c4⟩]
      · rw [show (4 : Int32) = nI 4 from rfl, if_pos (nI_le (by omega) (by omega)), hj 0 (Or.inl rfl) (fun z => absurd z (by decide)) (by omega), if_neg (show ¬ (0 : Int32) = 1 by decide), if_neg (show ¬ (cu len tx q = 44 ∧ s + 1 < 4) from fun z => c4 z.2)]
    · rw [if_pos c44, hj 0 (Or.inl rfl) (fun z => absurd z (by decide)) (by omega), if_neg (show ¬ (0 : Int32) = 1 by decide), if_neg (show ¬ (cu len tx q = 44 ∧ s + 1 < 4) from fun z => c44 z.1)]
/-! the reference's steps -/
theorem mo_at {n s : Nat} : (9 : Int32) + 8 * (4 * nI n + nI s) = nI (9 + 8 * (4 * n + s)) := by
  rw [show (9 : Int32) = nI 9 from rfl, show (8 : Int32) = nI 8 from rfl, show (4 : Int32) = nI 4 from rfl, pk_mul, nI_add, pk_mul, nI_add]
theorem mo_bad {len : Nat} {tx : Nat → Int32} (h : tOK len tx) {k m N n s : Nat} (hk : k ≤ len) (hN : 10 ≤ N) {rp : Nat → Int32} (h1 : 1 ≤ n) (h8 : n ≤ 8) (h0 : rp 0 = nI n) (hs : rp (1 + (n - 1)) = nI s) (h4 : s < 4) (hst : (rfS len tx k).1 = 0) :
    ∃ g, lp_X7_readPaper_38 N (nI len) tx (m + 1) 1 (nI k) rp = some (.inl (nI (rfS len tx k).2.2, g)) := by
  obtain ⟨g, hg, -, -⟩ := m_ref h (a := 9 + 8 * (4 * (n - 1) + s)) hk (by omega) hN rp
  refine ⟨g, ?_⟩
  rw [lp_X7_readPaper_38, if_neg (by decide), show (0 : Int32) = nI 0 from rfl, e_rd _ _ (by omega) (by omega), h0, e_nm, n_m1 h1, show (1 : Int32) + nI (n - 1) = nI (1 + (n - 1)) from a_add 1 _, e_rd _ _ (by omega) (by omega), hs, mo_at, hg, e_b3, if_pos hst, if_neg (fun z => z rfl)]
theorem mo_ok {len : Nat} {tx : Nat → Int32} (h : tOK len tx) {k m N n s q st : Nat} {F : Nat → Nat} (hk : k ≤ len) (hN : 10 ≤ N) {rp : Nat → Int32} (h1 : 1 ≤ n) (h8 : n ≤ 8) (h0 : rp 0 = nI n) (hs : rp (1 + (n - 1)) = nI s) (h4 : s < 4) (hst : st ≠ 0) (ho : rfS len tx k = (st, F, q)) (hq : q ≤ len) :
    ∃ g, fr8 g rp (9 + 8 * (4 * (n - 1) + s)) ∧ (st = 1 → rec8 g rp (9 + 8 * (4 * (n - 1) + s)) F) ∧ lp_X7_readPaper_38 N (nI len) tx (m + 2) 1 (nI k) rp =
      (if cu len tx q = 44 ∧ s + 1 < 4 then lp_X7_readPaper_38 N (nI len) tx (m + 1) 1 (nI (q + 1)) (upd g (1 + (n - 1)) (nI (s + 1)))
      else if cu len tx q = 59 ∧ n < 8 then lp_X7_readPaper_38 N (nI len) tx (m + 1) 1 (nI (q + 1)) (upd (upd (upd g (1 + (n - 1)) (nI (s + 1))) (1 + n) 0) 0 (nI (n + 1)))
      else some (.inr (nI q, upd g (1 + (n - 1)) (nI (s + 1))))) := by
  have hl := h.1
  obtain ⟨g, hg, hf, hr⟩ := m_ref h (a := 9 + 8 * (4 * (n - 1) + s)) hk (by omega) hN rp
  rw [ho] at hg hr
  simp only at hg hr
  refine ⟨g, hf, hr, ?_⟩
  have stop : lp_X7_readPaper_38 N (nI len) tx (m + 1) 0 (nI q) (upd g (1 + (n - 1)) (nI (s + 1))) = some (.inr (nI q, upd g (1 + (n - 1)) (nI (s + 1)))) := by
    rw [lp_X7_readPaper_38, if_pos rfl]
  have g0 : upd g (1 + (n - 1)) (nI (s + 1)) 0 = nI n := by rw [upd_n _ _ (by omega), hf 0 (by omega), h0]
  have hj : j_X7_readPaper_131 (lp_X7_readPaper_38 N (nI len) tx (m + 1)) (nI len) tx 0 (nI q) (upd g (1 + (n - 1)) (nI (s + 1))) =
      (if cu len tx q = 59 ∧ n < 8 then lp_X7_readPaper_38 N (nI len) tx (m + 1) 1 (nI (q + 1)) (upd (upd (upd g (1 + (n - 1)) (nI (s + 1))) (1 + n) 0) 0 (nI (n + 1)))
      else some (.inr (nI q, upd g (1 + (n - 1)) (nI (s + 1))))) := by
    unfold j_X7_readPaper_131
    rw [m_next h (by omega), e_b1]
    by_cases c59 : cu len tx q = 59
    · rw [if_neg (show ¬ ¬ cu len tx q = 59 from fun z => z c59), show pn_rd 265 (upd g (1 + (n - 1)) (nI (s + 1))) 0 = pn_rd 265 (upd g (1 + (n - 1)) (nI (s + 1))) (nI 0) from rfl, e_rd _ _ (by omega) (by omega), g0]
      by_cases c8 : n < 8
      · rw [show (8 : Int32) = nI 8 from rfl, if_neg (nI_ge c8 (by omega)), e_nm, nI_1, e_rd _ _ (by omega) (by omega), g0, show (1 : Int32) + nI n = nI (1 + n) from a_add 1 n, e_wrI _ _ _ (by omega) (by omega),
          show ∀ (f : Nat → Int32), pn_rd (α := Int32) (β := (Int32 × (Nat → Int32)) ⊕ (Int32 × (Nat → Int32))) 265 f 0 = pn_rd 265 f (nI 0) from fun _ => rfl, e_rd _ _ (by omega) (by omega), upd_n _ _ (show (0 : Nat) ≠ 1 + n by omega), g0, nI_1,
          show ∀ (f : Nat → Int32) (x : Int32), pn_wrI (β := (Int32 × (Nat → Int32)) ⊕ (Int32 × (Nat → Int32))) 265 f 0 x = pn_wrI 265 f (nI 0) x from fun _ _ => rfl, e_wrI _ _ _ (by omega) (by omega), if_pos ⟨c59, c8⟩]
      · rw [show (8 : Int32) = nI 8 from rfl, if_pos (nI_le (by omega) (by omega)), stop, if_neg (fun z => c8 z.2)]
    · rw [if_pos c59, stop, if_neg (fun z => c59 z.1)]
  rw [lp_X7_readPaper_38, if_neg (by decide), show pn_rd 265 rp 0 = pn_rd 265 rp (nI 0) from rfl, e_rd _ _ (by omega) (by omega), h0, e_nm, n_m1 h1, show (1 : Int32) + nI (n - 1) = nI (1 + (n - 1)) from a_add 1 _, e_rd _ _ (by omega) (by omega), hs, mo_at, hg, e_b3, if_neg hst, if_pos (by decide),
    e_rd _ _ (by omega) (by omega), hf _ (by omega), hs, nI_1, e_wrI _ _ _ (by omega) (by omega), m_next h (by omega), e_b1]
  by_cases c44 : cu len tx q = 44
  · rw [if_neg (show ¬ ¬ cu len tx q = 44 from fun z => z c44), e_rd _ _ (by omega) (by omega), upd_s]
    by_cases c4 : s + 1 < 4
    · rw [show (4 : Int32) = nI 4 from rfl, if_neg (nI_ge c4 (by omega)), e_nm, nI_1, if_pos ⟨c44, c4⟩]
    · rw [show (4 : Int32) = nI 4 from rfl, if_pos (nI_le (by omega) (by omega)), hj, if_neg (show ¬ (cu len tx q = 44 ∧ s + 1 < 4) from fun z => c4 z.2)]
  · rw [if_pos c44, hj, if_neg (show ¬ (cu len tx q = 44 ∧ s + 1 < 4) from fun z => c44 z.1)]
