/-! the cases: the first of each chain, in order -/
def kth (p : Nat → Bool) (c : Nat) : Nat := fa_first (fun r => p r && decide (fb_ct p r = c)) 32
theorem kth_ok {p : Nat → Bool} {c : Nat} (h : c < fb_ct p 32) : kth p c < 32 ∧ p (kth p c) = true ∧ fb_ct p (kth p c) = c := by
  obtain ⟨i, hi, hp, hc⟩ := fb_ct_kth h
  have hle : kth p c ≤ i := by
    rcases Nat.lt_or_ge i (kth p c) with q | q
    · have := fa_first_no (fun r => p r && decide (fb_ct p r = c)) 32 i q
      simp [hp, hc] at this
    · exact q
  have hlt : kth p c < 32 := by omega
  have := fa_first_yes (fun r => p r && decide (fb_ct p r = c)) 32 hlt
  simp only [Bool.and_eq_true, decide_eq_true_eq] at this
  exact ⟨hlt, this⟩
theorem kth_of {p : Nat → Bool} {r : Nat} (hr : r < 32) (h : p r = true) : kth p (fb_ct p r) = r := by
  have hc : fb_ct p r < fb_ct p 32 := by
    have h1 := fb_ct_mono p (show r + 1 ≤ 32 by omega)
    rw [fb_ct_succ, h] at h1
    simp at h1
    omega
  obtain ⟨h1, h2, h3⟩ := kth_ok hc
  exact fb_ct_kth_one h2 h h3
def fx (n : Nat) (z : Nat → Nat) (G : Nat → Nat → Nat) (L : Nat) (lab : Nat → Nat) (r : Nat) : Bool := sp n z G L r && decide (lab r = r)
theorem fx_sp {n : Nat} {z : Nat → Nat} {G : Nat → Nat → Nat} {L : Nat} {lab : Nat → Nat} {r : Nat} (h : fx n z G L lab r = true) : sp n z G L r = true := by
  unfold fx at h; simp only [Bool.and_eq_true] at h; exact h.1
theorem fx_lab {n : Nat} {z : Nat → Nat} {G : Nat → Nat → Nat} {L : Nat} {lab : Nat → Nat} {r : Nat} (hn : n ≤ 8) (h : LB (sp n z G L) (mt G) lab) (hr : sp n z G L r = true) : fx n z G L lab (lab r) = true := by
  have r32 := sp_lt hr hn
  unfold fx
  rw [LB_S h r32 hr, LB_fix h r32]
  simp
/-- how the reference holds the cases -/
def eC (fxr : Nat → Bool) (cs : Int32) (cf : Nat → Int32) : Prop := cs = nI (fb_ct fxr 32) ∧ ∀ c, c < fb_ct fxr 32 → cf c = nI (kth fxr c)
theorem m_lay {n : Nat} {z : Nat → Nat} {G : Nat → Nat → Nat} {p : Nat → Int32} (ha : aP n z G) (hm : mP n z G p) {L N : Nat} (hL : L < 2 ^ 31) (hN : 2000 ≤ N) (c0 : Int32) (cf0 lb0 : Nat → Int32) :
    ∃ (cs : Int32) (cf lb : Nat → Int32) (lab : Nat → Nat), f_X7_layCases N c0 cf0 lb0 p (nI L) = some (cs, cf, lb) ∧ eL lb lab ∧ LB (sp n z G L) (mt G) lab ∧ eC (fx n z G L lab) cs cf := by
  obtain ⟨g0, a1, a2⟩ := m_lab0 (N := N) (by omega) lb0
  obtain ⟨g, b1, lab, b2, b3⟩ := m_labs ha hm hL hN a2
  have main := lp_up (fun n' i (s : Int32 × (Nat → Int32)) => lp_X7_layCases_135 p (nI L) g n' (nI i) s.1 s.2) 32
    (fun i s => s.1 = nI (fb_ct (fx n z G L lab) i) ∧ ∀ r, r < i → fx n z G L lab r = true → s.2 (fb_ct (fx n z G L lab) r) = nI r)
    (fun b => b.1 = nI (fb_ct (fx n z G L lab) 32) ∧ ∀ r, r < 32 → fx n z G L lab r = true → b.2 (fb_ct (fx n z G L lab) r) = nI r)
    (fun m s h => ⟨s, by simp only [lp_X7_layCases_135]; rw [if_pos (by decide)], h⟩)
    (fun m i s hi h => by
      obtain ⟨cs, cf⟩ := s
      simp only at h ⊢
      right
      have hle := fb_ct_le (fx n z G L lab) i
      rw [lp_X7_layCases_135, show (32 : Int32) = nI 32 from rfl, if_neg (nI_ge hi (by omega)), m_sp ha hm hL (by omega), e_b1]
      have l32 := b3.1 i hi
      have skip : fx n z G L lab i = false → nI (fb_ct (fx n z G L lab) i) = nI (fb_ct (fx n z G L lab) (i + 1)) ∧ ∀ r, r < i + 1 → fx n z G L lab r = true → cf (fb_ct (fx n z G L lab) r) = nI r := by
        intro hf
        rw [fb_ct_succ, hf]
        refine ⟨rfl, fun r hr hx => ?_⟩
        by_cases e : r = i
        · subst e; rw [hf] at hx; exact absurd hx (by decide)
        · exact h.2 r (by omega) hx
      cases c1 : sp n z G L i with
      | false =>
        have hf : fx n z G L lab i = false := by unfold fx; rw [c1]; rfl
        refine ⟨(cs, cf), ?_, ?_⟩
        · rw [h.1]; exact skip hf
        · rw [if_pos (by rw [b1_0]), e_nm, nI_1]
      | true =>
        rw [if_neg (by rw [b1_n0]), e_rd _ _ hi (by omega), b2 i hi]
        by_cases c2 : lab i = i
        · have hf : fx n z G L lab i = true := by unfold fx; rw [c1]; simp [c2]
          refine ⟨(nI (fb_ct (fx n z G L lab) i + 1), upd cf (fb_ct (fx n z G L lab) i) (nI i)), ?_, ?_⟩
          · refine ⟨by rw [fb_ct_succ, hf]; rfl, fun r hr hx => ?_⟩
            by_cases e : r = i
            · subst e; exact upd_s _ _ _
            · have hne : fb_ct (fx n z G L lab) r ≠ fb_ct (fx n z G L lab) i := fun w => e (fb_ct_kth_one hx hf w)
              show upd cf _ _ _ = _
              rw [upd_n _ _ hne]; exact h.2 r (by omega) hx
          · rw [if_neg (fun w => w (by rw [c2])), h.1, e_wrI _ _ _ (by omega) (by omega), e_nm, nI_1, e_nm, nI_1]
        · have hf : fx n z G L lab i = false := by unfold fx; simp [c2]
          refine ⟨(cs, cf), ?_, ?_⟩
          · rw [h.1]; exact skip hf
          · rw [if_pos (fun w => c2 ((nI_eq (by omega) (by omega)).mp w)), e_nm, nI_1])
    N 0 (0, cf0) (by omega) (by omega) ⟨rfl, fun r hr => by omega⟩
  obtain ⟨⟨cs, cf⟩, d1, d2, d3⟩ := main
  simp only at d1 d2 d3
  refine ⟨cs, cf, g, lab, ?_, b2, b3, d2, fun c hc => ?_⟩
  · unfold f_X7_layCases
    rw [a1, e_b1, e_u1, b1, e_b1, e_u1, show lp_X7_layCases_135 p (nI L) g N 0 0 cf0 = _ from d1, e_b1, e_u2]
  · obtain ⟨k1, k2, k3⟩ := kth_ok hc
    have := d3 _ k1 k2
    rw [k3] at this
    exact this
/-- the number of a citation's case -/
def cs (n : Nat) (z : Nat → Nat) (G : Nat → Nat → Nat) (L : Nat) (lab : Nat → Nat) (r : Nat) : Nat := fb_ct (fx n z G L lab) (lab r)
theorem cs_lt {n : Nat} {z : Nat → Nat} {G : Nat → Nat → Nat} {L : Nat} {lab : Nat → Nat} {r : Nat} (hn : n ≤ 8) (h : LB (sp n z G L) (mt G) lab) (hr : sp n z G L r = true) : cs n z G L lab r < fb_ct (fx n z G L lab) 32 := by
  have r32 := sp_lt hr hn
  have hf := fx_lab hn h hr
  have hl := h.1 r r32
  have h1 := fb_ct_mono (fx n z G L lab) (show lab r + 1 ≤ 32 by omega)
  rw [fb_ct_succ, hf] at h1
  simp at h1
  unfold cs
  omega
theorem cs_kth {n : Nat} {z : Nat → Nat} {G : Nat → Nat → Nat} {L : Nat} {lab : Nat → Nat} {r : Nat} (hn : n ≤ 8) (h : LB (sp n z G L) (mt G) lab) (hr : sp n z G L r = true) : kth (fx n z G L lab) (cs n z G L lab r) = lab r := by
  have r32 := sp_lt hr hn
  have hl := h.1 r r32
  exact kth_of (by omega) (fx_lab hn h hr)
theorem m_caseOf {n : Nat} {z : Nat → Nat} {G : Nat → Nat → Nat} {L N : Nat} {lab : Nat → Nat} (hn : n ≤ 8) (h : LB (sp n z G L) (mt G) lab) (hN : 2000 ≤ N) {c1 : Int32} {cf lb : Nat → Int32} (hl : eL lb lab) (hc : eC (fx n z G L lab) c1 cf) {r : Nat} (hr : sp n z G L r = true) :
    f_X7_caseOf N c1 cf lb (nI r) = some (nI (cs n z G L lab r)) := by
  have r32 := sp_lt hr hn
  have lr := h.1 r r32
  have hnc := fb_ct_le (fx n z G L lab) 32
  have hcs := cs_lt hn h hr
  have main := lp_up (fun n' i (s : Int32) => lp_X7_caseOf_5 c1 cf lb (nI r) n' s (nI i)) (fb_ct (fx n z G L lab) 32)
    (fun i s => s = if cs n z G L lab r < i then nI (cs n z G L lab r) else -9) (fun b => b = nI (cs n z G L lab r))
    (fun m s hs => ⟨s, by simp only [lp_X7_caseOf_5]; rw [hc.1, if_pos (nI_le (Nat.le_refl _) (by omega))], by rw [hs, if_pos hcs]⟩)
    (fun m i s hi hs => by
      right
      simp only [lp_X7_caseOf_5]
      obtain ⟨k1, k2, k3⟩ := kth_ok hi
      rw [hc.1, if_neg (nI_ge hi (by omega)), e_rd _ _ (by omega) (by omega), hc.2 i hi, e_rd _ _ r32 (by omega), hl r r32]
      by_cases q : kth (fx n z G L lab) i = lab r
      · have e : i = cs n z G L lab r := by unfold cs; rw [← q, k3]
        refine ⟨nI i, by rw [if_pos (by omega), e], ?_⟩
        rw [if_neg (fun w => w (by rw [q])), e_nm, nI_1]
      · have e : i ≠ cs n z G L lab r := fun w => q (by rw [w]; exact cs_kth hn h hr)
        refine ⟨s, ?_, ?_⟩
        · rw [hs]
          by_cases y : cs n z G L lab r < i
          · rw [if_pos y, if_pos (by omega)]
          · rw [if_neg y, if_neg (by omega)]
        · rw [if_pos (fun w => q ((nI_eq (by omega) (by omega)).mp w)), e_nm, nI_1])
    N 0 (-9) (by omega) (by omega) (by rw [if_neg (by omega)])
  obtain ⟨b, d1, rfl⟩ := main
  unfold f_X7_caseOf
  rw [show lp_X7_caseOf_5 c1 cf lb (nI r) N (-9) 0 = _ from d1, e_b1, e_u1]
theorem m_ini {n : Nat} {z : Nat → Nat} {G : Nat → Nat → Nat} {p : Nat → Int32} (ha : aP n z G) (hm : mP n z G p) {L : Nat} {lab : Nat → Nat} {c1 : Int32} {cf : Nat → Int32} (hc : eC (fx n z G L lab) c1 cf) {c : Nat} (h : c < fb_ct (fx n z G L lab) 32) : f_X7_initial cf p (nI c) = some (nI (G (kth (fx n z G L lab) c) 1)) := by
  obtain ⟨k1, k2, k3⟩ := kth_ok h
  have hnc := fb_ct_le (fx n z G L lab) 32
  unfold f_X7_initial
  rw [e_rd _ _ (by omega) (by omega), hc.2 c h, show f_X7_ref p (nI (kth (fx n z G L lab) c)) 1 = _ from m_refT ha hm (lf_th (sp_lf (fx_sp k2))) (i := 1) (by omega), e_b1]
