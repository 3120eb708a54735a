/-! citations of one case: joined by chains of common reports; each is labelled by the first of its chain -/
def cn (S : Nat → Bool) (E : Nat → Nat → Bool) (r s : Nat) : Prop := ∀ h : Nat → Nat, (∀ a b, S a = true → S b = true → E a b = true → h a = h b) → h r = h s
theorem cn_rf {S : Nat → Bool} {E : Nat → Nat → Bool} (r : Nat) : cn S E r r := fun _ _ => rfl
theorem cn_tr {S : Nat → Bool} {E : Nat → Nat → Bool} {a b c : Nat} (h1 : cn S E a b) (h2 : cn S E b c) : cn S E a c := fun h q => (h1 h q).trans (h2 h q)
theorem cn_sy {S : Nat → Bool} {E : Nat → Nat → Bool} {a b : Nat} (h1 : cn S E a b) : cn S E b a := fun h q => (h1 h q).symm
theorem cn_ed {S : Nat → Bool} {E : Nat → Nat → Bool} {a b : Nat} (h1 : S a = true) (h2 : S b = true) (h3 : E a b = true) : cn S E a b := fun _ q => q a b h1 h2 h3
def LB (S : Nat → Bool) (E : Nat → Nat → Bool) (lab : Nat → Nat) : Prop := (∀ r, r < 32 → lab r ≤ r) ∧ (∀ r, r < 32 → cn S E r (lab r)) ∧ ∀ r s, S r = true → S s = true → E r s = true → lab r = lab s
theorem LB_fix {S : Nat → Bool} {E : Nat → Nat → Bool} {lab : Nat → Nat} (h : LB S E lab) {r : Nat} (hr : r < 32) : lab (lab r) = lab r := (h.2.1 r hr lab (fun a b => h.2.2 a b)).symm
theorem LB_S {S : Nat → Bool} {E : Nat → Nat → Bool} {lab : Nat → Nat} (h : LB S E lab) {r : Nat} (hr : r < 32) (hS : S r = true) : S (lab r) = true := by
  have := h.2.1 r hr (fun x => if S x = true then 0 else 1) (fun a b h1 h2 _ => by simp [h1, h2])
  simp only [hS, if_true] at this
  by_cases q : S (lab r) = true
  · exact q
  · simp [q] at this
theorem LB_one {S : Nat → Bool} {E : Nat → Nat → Bool} (hS : ∀ r, S r = true → r < 32) {l1 l2 : Nat → Nat} (h1 : LB S E l1) (h2 : LB S E l2) {r : Nat} (hr : S r = true) : l1 r = l2 r := by
  have r32 := hS r hr
  have key : ∀ {a b : Nat → Nat}, LB S E a → LB S E b → b r ≤ a r := by
    intro a b ha hb
    have e : b r = b (a r) := ha.2.1 r r32 b (fun x y => hb.2.2 x y)
    have := ha.1 r r32
    rw [e]
    exact hb.1 _ (by omega)
  exact Nat.le_antisymm (key h2 h1) (key h1 h2)
theorem mt_sy (G : Nat → Nat → Nat) (r s : Nat) : mt G r s = mt G s r := by
  rw [Bool.eq_iff_iff]
  unfold mt hr
  simp only [Bool.or_eq_true, Bool.and_eq_true, decide_eq_true_eq]
  omega
theorem sp_lt {n : Nat} {z : Nat → Nat} {G : Nat → Nat → Nat} {L r : Nat} (h : sp n z G L r = true) (hn : n ≤ 8) : r < 32 := th_lt (lf_th (sp_lf h)) hn
/-! the reference's labels -/
def eL (lb : Nat → Int32) (lab : Nat → Nat) : Prop := ∀ r, r < 32 → lb r = nI (lab r)
def pL (S : Nat → Bool) (E : Nat → Nat → Bool) (lab : Nat → Nat) : Prop := (∀ r, r < 32 → lab r ≤ r) ∧ ∀ r, r < 32 → cn S E r (lab r)
theorem m_lab0 {N : Nat} (hN : 40 ≤ N) (lb : Nat → Int32) : ∃ g, lp_X7_layCases_2 N 0 lb = some g ∧ eL g (fun r => r) := by
  exact lp_up (fun n i (s : Nat → Int32) => lp_X7_layCases_2 n (nI i) s) 32 (fun i s => ∀ r, r < i → s r = nI r) (fun g => eL g (fun r => r))
    (fun n s h => ⟨s, by simp only [lp_X7_layCases_2]; rw [if_pos (by decide)], h⟩)
    (fun n i s hi h => Or.inr ⟨upd s i (nI i), fun r hr => by
        by_cases q : r = i
        · subst q; rw [upd_s]
        · rw [upd_n _ _ q]; exact h r (by omega), by
        simp only [lp_X7_layCases_2]
        rw [show (32 : Int32) = nI 32 from rfl, if_neg (nI_ge hi (by omega)), e_wrI _ _ _ hi (by omega), e_nm, nI_1]⟩)
    N 0 lb (by omega) (by omega) (fun r hr => by omega)
/-- one pass over all pairs: the labels fall, or nothing is left to do -/
theorem m_pass {n : Nat} {z : Nat → Nat} {G : Nat → Nat → Nat} {p : Nat → Int32} (ha : aP n z G) (hm : mP n z G p) {L N : Nat} (hL : L < 2 ^ 31) (hN : 2000 ≤ N) {lb : Nat → Int32} {lab : Nat → Nat} (he : eL lb lab) (hp : pL (sp n z G L) (mt G) lab) :
    ∃ (b : Int32 × (Nat → Int32)), lp_X7_layCases_32 p (nI L) N 0 0 lb = some b ∧ ∃ lab', eL b.2 lab' ∧ pL (sp n z G L) (mt G) lab' ∧ ((b.1 = 1 ∧ fb_sm lab' 32 < fb_sm lab 32) ∨ (b.1 = 0 ∧ LB (sp n z G L) (mt G) lab')) := by
  have main := lp_up (fun n' i (s : Int32 × (Nat → Int32)) => lp_X7_layCases_32 p (nI L) n' s.1 (nI i) s.2) 1024
    (fun i s => ∃ lab', eL s.2 lab' ∧ pL (sp n z G L) (mt G) lab' ∧ ((s.1 = 1 ∧ fb_sm lab' 32 < fb_sm lab 32) ∨ (s.1 = 0 ∧ lab' = lab ∧ ∀ k, k < i → ¬ (lab (k % 32) < lab (k / 32) ∧ sp n z G L (k / 32) = true ∧ sp n z G L (k % 32) = true ∧ mt G (k / 32) (k % 32) = true))))
    (fun b => ∃ lab', eL b.2 lab' ∧ pL (sp n z G L) (mt G) lab' ∧ ((b.1 = 1 ∧ fb_sm lab' 32 < fb_sm lab 32) ∨ (b.1 = 0 ∧ LB (sp n z G L) (mt G) lab')))
    ?hx ?hs N 0 (0, lb) (by omega) (by omega) ⟨lab, he, hp, Or.inr ⟨rfl, rfl, fun k hk => by omega⟩⟩
  · exact main
  case hx =>
    intro m s ⟨lab', h1, h2, h3⟩
    refine ⟨s, ?_, lab', h1, h2, ?_⟩
    · simp only [lp_X7_layCases_32]
      rw [if_pos (by decide)]
    · rcases h3 with h3 | ⟨h3, rfl, h4⟩
      · exact Or.inl h3
      · refine Or.inr ⟨h3, h2.1, h2.2, fun r q hr hq hE => ?_⟩
        have r32 := sp_lt hr ha.1
        have q32 := sp_lt hq ha.1
        have a1 := h4 (r * 32 + q) (by omega)
        have a2 := h4 (q * 32 + r) (by omega)
        rw [show (r * 32 + q) / 32 = r by omega, show (r * 32 + q) % 32 = q by omega] at a1
        rw [show (q * 32 + r) / 32 = q by omega, show (q * 32 + r) % 32 = r by omega] at a2
        have b1 : ¬ lab' q < lab' r := fun w => a1 ⟨w, hr, hq, hE⟩
        have b2 : ¬ lab' r < lab' q := fun w => a2 ⟨w, hq, hr, by rw [mt_sy]; exact hE⟩
        omega
  case hs =>
    intro m i s hi ⟨lab', h1, h2, h3⟩
    obtain ⟨x3, g⟩ := s
    simp only at h1 h3 ⊢
    have r32 : i / 32 < 32 := by omega
    have q32 : i % 32 < 32 := by omega
    have lr := h2.1 _ r32
    have lq := h2.1 _ q32
    right
    have keep : ¬ (lab' (i % 32) < lab' (i / 32) ∧ sp n z G L (i / 32) = true ∧ sp n z G L (i % 32) = true ∧ mt G (i / 32) (i % 32) = true) → ∃ lab'', eL g lab'' ∧ pL (sp n z G L) (mt G) lab'' ∧ ((x3 = 1 ∧ fb_sm lab'' 32 < fb_sm lab 32) ∨ (x3 = 0 ∧ lab'' = lab ∧ ∀ k, k < i + 1 → ¬ (lab (k % 32) < lab (k / 32) ∧ sp n z G L (k / 32) = true ∧ sp n z G L (k % 32) = true ∧ mt G (k / 32) (k % 32) = true))) := by
      intro hno
      refine ⟨lab', h1, h2, ?_⟩
      rcases h3 with h3 | ⟨h3, rfl, h4⟩
      · exact Or.inl h3
      · refine Or.inr ⟨h3, rfl, fun k hk => ?_⟩
        by_cases e : k = i
        · subst e; exact hno
        · exact h4 k (by omega)
    rw [lp_X7_layCases_32, show (1024 : Int32) = nI 1024 from rfl, if_neg (nI_ge hi (by omega)), e_nm, e_nm, show (32 : Int32) = nI 32 from rfl, pk_div (by omega) (by omega) (by omega), show nI i - nI (i / 32) * nI 32 = nI (i % 32) from by rw [← pk_div (a := i) (d := 32) (by omega) (by omega) (by omega)]; exact pk_rem (by omega) (by omega) (by omega),
      e_rd _ _ q32 (by omega), e_rd _ _ r32 (by omega), h1 _ q32, h1 _ r32]
    by_cases c1 : lab' (i / 32) ≤ lab' (i % 32)
    · refine ⟨(x3, g), keep (fun w => by omega), ?_⟩
      rw [if_pos (nI_le c1 (by omega)), e_nm, nI_1]
    · rw [if_neg (nI_ge (by omega) (by omega)), m_sp ha hm hL (by omega), e_b1]
      cases c2 : sp n z G L (i / 32) with
      | false =>
        refine ⟨(x3, g), keep (fun w => by rw [c2] at w; exact absurd w.2.1 (by decide)), ?_⟩
        rw [if_pos (by rw [b1_0]), e_nm, nI_1]
      | true =>
        rw [if_neg (by rw [b1_n0]), m_sp ha hm hL (by omega), e_b1]
        cases c3 : sp n z G L (i % 32) with
        | false =>
          refine ⟨(x3, g), keep (fun w => by rw [c3] at w; exact absurd w.2.2.1 (by decide)), ?_⟩
          rw [if_pos (by rw [b1_0]), e_nm, nI_1]
        | true =>
          rw [if_neg (by rw [b1_n0]), m_mt ha hm (lf_th (sp_lf c2)) (lf_th (sp_lf c3)), e_b1]
          cases c4 : mt G (i / 32) (i % 32) with
          | false =>
            refine ⟨(x3, g), keep (fun w => by rw [c4] at w; exact absurd w.2.2.2 (by decide)), ?_⟩
            rw [if_pos (by rw [b1_0]), e_nm, nI_1]
          | true =>
            refine ⟨(1, upd g (i / 32) (nI (lab' (i % 32)))), ⟨fun j => if j = i / 32 then lab' (i % 32) else lab' j, ?_, ⟨fun j hj => ?_, fun j hj => ?_⟩, Or.inl ⟨rfl, ?_⟩⟩, ?_⟩
            · intro j hj
              show upd g (i / 32) (nI (lab' (i % 32))) j = nI (if j = i / 32 then lab' (i % 32) else lab' j)
              by_cases e : j = i / 32
              · subst e; rw [upd_s]; simp
              · rw [upd_n _ _ e]; simp only [e, if_false]; exact h1 j hj
            · by_cases e : j = i / 32
              · simp only [e, if_true]; omega
              · simp only [e, if_false]; exact h2.1 j hj
            · by_cases e : j = i / 32
              · simp only [e, if_true]
                exact cn_tr (cn_ed c2 c3 c4) (h2.2 _ q32)
              · simp only [e, if_false]; exact h2.2 j hj
            · have hsum := fb_sm_upd lab' (lab' (i % 32)) (i := i / 32) (n := 32) r32
              have hle : fb_sm lab' 32 ≤ fb_sm lab 32 := by
                rcases h3 with h3 | ⟨-, rfl, -⟩
                · omega
                · exact Nat.le_refl _
              omega
            · rw [if_neg (by rw [b1_n0]), e_rd _ _ q32 (by omega), h1 _ q32, e_wrI _ _ _ r32 (by omega), e_nm, nI_1]
theorem m_labs {n : Nat} {z : Nat → Nat} {G : Nat → Nat → Nat} {p : Nat → Int32} (ha : aP n z G) (hm : mP n z G p) {L N : Nat} (hL : L < 2 ^ 31) (hN : 2000 ≤ N) {lb : Nat → Int32} (he : eL lb (fun r => r)) :
    ∃ g, lp_X7_layCases_23 N p (nI L) N 1 lb = some g ∧ ∃ lab, eL g lab ∧ LB (sp n z G L) (mt G) lab := by
  have hs : fb_sm (fun r => r) 32 = 496 := by decide
  have main := lp_wh (fun n' (s : Int32 × (Nat → Int32) × Nat) => lp_X7_layCases_23 N p (nI L) n' s.1 s.2.1)
    (fun s => ∃ lab, eL s.2.1 lab ∧ pL (sp n z G L) (mt G) lab ∧ ((s.1 = 1 ∧ s.2.2 = fb_sm lab 32 + 1) ∨ (s.1 = 0 ∧ s.2.2 = 0 ∧ LB (sp n z G L) (mt G) lab))) (fun s => s.2.2)
    (fun g => ∃ lab, eL g lab ∧ LB (sp n z G L) (mt G) lab) ?hs N (1, lb, 497) (by simp only; omega) ⟨fun r => r, he, ⟨fun r _ => Nat.le_refl r, fun r _ => cn_rf r⟩, Or.inl ⟨rfl, by simp only [hs]⟩⟩
  · exact main
  case hs =>
    intro m s ⟨lab, h1, h2, h3⟩
    obtain ⟨x3, g, mu⟩ := s
    simp only at h1 h3 ⊢
    rcases h3 with ⟨rfl, h4⟩ | ⟨rfl, h4, h5⟩
    · right
      obtain ⟨⟨b, g'⟩, hb, lab', i1, i2, i3⟩ := m_pass ha hm hL hN h1 h2
      simp only at i1 i3
      rcases i3 with ⟨rfl, i4⟩ | ⟨rfl, i4⟩
      · refine ⟨(1, g', fb_sm lab' 32 + 1), ⟨lab', i1, i2, Or.inl ⟨rfl, rfl⟩⟩, by simp only; omega, ?_⟩
        rw [lp_X7_layCases_23, if_neg (by decide), hb, e_b1, e_u2]
      · refine ⟨(0, g', 0), ⟨lab', i1, i2, Or.inr ⟨rfl, rfl, i4⟩⟩, by simp only; omega, ?_⟩
        rw [lp_X7_layCases_23, if_neg (by decide), hb, e_b1, e_u2]
    · left
      refine ⟨g, ?_, lab, h1, h5⟩
      rw [lp_X7_layCases_23, if_pos rfl]
