/-! figures of above references get other numbers -/
section
variable {n : Nat} {z : Nat → Nat} {G : Nat → Nat → Nat} {p sz : Nat → Int32} {ci : Nat → Int64} {N : Nat} {nt : Int32}
def wn (F : Nat → Nat) (v : Nat) : Nat → Nat := fun i => if i = 6 then v else F i
theorem wn_id (F : Nat → Nat) : wn F (F 6) = F := by
  funext j
  unfold wn
  by_cases k : j = 6
  · rw [if_pos k, k]
  · rw [if_neg k]
theorem c_withNumber {F : Nat → Nat} (h : vF F) {v : Nat} (hv : v < 16) : f_X0_withNumber (lN (en F)) (nI v) = some (lN (en (wn F v))) := by
  have h1 := en_lt h
  have h2 := vF_b h
  rw [x_withNumber (by omega) hv]
  congr 2
  unfold en ce wn
  simp only [show ¬ (0 : Nat) = 6 by decide, show ¬ (1 : Nat) = 6 by decide, show ¬ (2 : Nat) = 6 by decide, show ¬ (3 : Nat) = 6 by decide, show ¬ (4 : Nat) = 6 by decide, show ¬ (5 : Nat) = 6 by decide, show ¬ (7 : Nat) = 6 by decide, if_false, if_true]
  omega
theorem wn_v {F : Nat → Nat} (h : vF F) (h3 : F 0 = 3) {v : Nat} (hv : v < 10) : vF (wn F v) := by
  unfold vF wn at *
  simp only [show ¬ (0 : Nat) = 6 by decide, show ¬ (1 : Nat) = 6 by decide, show ¬ (2 : Nat) = 6 by decide, show ¬ (3 : Nat) = 6 by decide, show ¬ (4 : Nat) = 6 by decide, show ¬ (5 : Nat) = 6 by decide, show ¬ (7 : Nat) = 6 by decide, if_false, if_true] at *
  omega
/-- the paper with its figures renamed -/
def gm (n : Nat) (z : Nat → Nat) (G : Nat → Nat → Nat) (ρ : Nat → Nat) (r : Nat) : Nat → Nat := if th n z r = true ∧ G r 0 = 3 then wn (G r) (ρ (G r 6)) else G r
theorem gm_v (ha : aP n z G) {ρ : Nat → Nat} (hρ : ∀ k, k < 10 → ρ k < 10) : aP n z (gm n z G ρ) := by
  refine ⟨ha.1, fun k hk => ⟨(ha.2 k hk).1, (ha.2 k hk).2.1, fun j hj => ?_⟩⟩
  have hv := (ha.2 k hk).2.2 j hj
  have hb := vF_b hv
  unfold gm
  split
  · rename_i w
    exact wn_v hv w.2 (hρ _ (by omega))
  · exact hv
theorem cP_rep (hc : cP n z G nt sz ci) (ha : aP n z G) {r : Nat} (F : Nat → Nat) : cP n z (gu G r F) nt sz (vp_updL ci r (lN (en F))) := by
  refine ⟨hc.1, fun k hk => ⟨(hc.2 k hk).1, fun j hj => ?_⟩⟩
  by_cases e : 4 * k + j = r
  · rw [e, gu_s, updL_s]
  · rw [gu_n _ _ e, updL_n _ _ e]; exact (hc.2 k hk).2 j hj
theorem mP_rep (hm : mP n z G p) (ha : aP n z G) {r : Nat} {F : Nat → Nat} {g : Nat → Int32} (hg : rec8 g p (9 + 8 * r) F) : mP n z (gu G r F) g := by
  have h8 := ha.1
  refine ⟨by rw [hg.2 0 (by omega)]; exact hm.1, fun k hk => ⟨by rw [hg.2 _ (by omega)]; exact (hm.2 k hk).1, fun j hj i hi => ?_⟩⟩
  by_cases e : 4 * k + j = r
  · rw [e, gu_s]; exact hg.1 i hi
  · rw [gu_n _ _ e, hg.2 _ (by omega)]; exact (hm.2 k hk).2 j hj i hi
def mx (n : Nat) (z : Nat → Nat) (G : Nat → Nat → Nat) (ρ : Nat → Nat) (i r : Nat) : Nat → Nat := if r < i then gm n z G ρ r else G r
theorem mx_s (ρ : Nat → Nat) (i : Nat) : mx n z G ρ (i + 1) = gu (mx n z G ρ i) i (gm n z G ρ i) := by
  funext r
  unfold mx gu
  by_cases e : r = i
  · subst e; rw [if_pos (by omega), if_pos rfl]
  · by_cases q : r < i
    · rw [if_pos (by omega), if_neg e]; exact (if_pos q).symm
    · rw [if_neg (by omega), if_neg e]; exact (if_neg q).symm
theorem mx_i (ρ : Nat → Nat) (i : Nat) : mx n z G ρ i i = G i := if_neg (by omega)
theorem mx_same (ρ : Nat → Nat) {i : Nat} (h : gm n z G ρ i = G i) : mx n z G ρ (i + 1) = mx n z G ρ i := by
  funext r
  unfold mx
  by_cases e : r = i
  · subst e; rw [if_pos (by omega), if_neg (by omega), h]
  · by_cases q : r < i
    · rw [if_pos (by omega), if_pos q]
    · rw [if_neg (by omega), if_neg q]
theorem mx_a (ha : aP n z G) {ρ : Nat → Nat} (hρ : ∀ k, k < 10 → ρ k < 10) (i : Nat) : aP n z (mx n z G ρ i) := by
  refine ⟨ha.1, fun k hk => ⟨(ha.2 k hk).1, (ha.2 k hk).2.1, fun j hj => ?_⟩⟩
  unfold mx
  split
  · exact ((gm_v ha hρ).2 k hk).2.2 j hj
  · exact (ha.2 k hk).2.2 j hj
theorem mx_end (ha : aP n z G) (ρ : Nat → Nat) (k j : Nat) (hk : k < n) (hj : j < z k) : mx n z G ρ 32 (4 * k + j) = gm n z G ρ (4 * k + j) := by
  have := ha.1
  have := (ha.2 k hk).2.1
  exact if_pos (by omega)
theorem cP_cong {z' : Nat → Nat} {G' : Nat → Nat → Nat} (hc : cP n z G nt sz ci) (h : ∀ k, k < n → z k = z' k ∧ ∀ j, j < z k → G (4 * k + j) = G' (4 * k + j)) : cP n z' G' nt sz ci :=
  ⟨hc.1, fun k hk => ⟨by rw [(hc.2 k hk).1, (h k hk).1], fun j hj => by rw [← (h k hk).1] at hj; rw [(hc.2 k hk).2 j hj, (h k hk).2 j hj]⟩⟩
theorem mP_cong {z' : Nat → Nat} {G' : Nat → Nat → Nat} (hm : mP n z G p) (h : ∀ k, k < n → z k = z' k ∧ ∀ j, j < z k → G (4 * k + j) = G' (4 * k + j)) : mP n z' G' p :=
  ⟨hm.1, fun k hk => ⟨by rw [(hm.2 k hk).1, (h k hk).1], fun j hj i hi => by rw [← (h k hk).1] at hj; rw [(hm.2 k hk).2 j hj i hi, (h k hk).2 j hj]⟩⟩
theorem x_mend (ha : aP n z G) (hc : cP n z G (nI n) sz ci) (hN : 2000 ≤ N) {p1 p2 p3 p4 p5 : Int32} {ρ : Nat → Nat} (hρ : ∀ k, k < 10 → ρ k < 10)
    (h1 : ∀ k, k < 10 → nI k = p4 → p5 = nI (ρ k)) (h2 : ∀ k, k < 10 → ¬ nI k = p4 → nI k < p1 ∨ p2 < nI k → ρ k = k) (h3 : ∀ k, k < 10 → ¬ nI k = p4 → ¬ nI k < p1 → ¬ p2 < nI k → nI k + p3 = nI (ρ k)) :
    ∃ ci', f_X1_mendNumbers N (nI n) ci sz p1 p2 p3 p4 p5 = some ci' ∧ cP n z (gm n z G ρ) (nI n) sz ci' := by
  have main := lp_up (fun m i (s : Nat → Int64) => lp_X1_mendNumbers_3 (nI n) sz p1 p2 p3 p4 p5 m (nI i) s) 32 (fun i s => cP n z (mx n z G ρ i) (nI n) sz s) (fun s => cP n z (mx n z G ρ 32) (nI n) sz s)
    (fun m s w => ⟨s, by
      simp only [lp_X1_mendNumbers_3]
      rw [if_pos (show (32 : Int32) ≤ nI 32 from by decide)], w⟩)
    (fun m i s hi w => by
      right
      have hA := mx_a ha hρ i
      simp only [lp_X1_mendNumbers_3]
      rw [if_neg (show ¬ (32 : Int32) ≤ nI i from nI_ge (b := 32) hi (by omega)), x_hasSlot hA w hi, e_b1]
      cases ht : th n z i with
      | false =>
        refine ⟨s, ?_, by rw [if_pos (by decide), e_nm, nI_1]⟩
        rw [mx_same ρ (by unfold gm; rw [if_neg (by rw [ht]; intro k; cases k.1)])]
        exact w
      | true =>
        have hv : vF (G i) := th_v ha ht
        have hb := vF_b hv
        have hs : s i = lN (en (G i)) := by rw [cP_c w ht, mx_i]
        rw [if_neg (by decide), e_rd _ _ hi (by omega), hs, c_form hv, e_b1]
        by_cases q3 : G i 0 = 3
        · rw [if_pos (show nI (G i 0) = 3 from by rw [q3]; rfl), e_rd _ _ hi (by omega), hs, c_number hv, e_b1]
          have eg : gm n z G ρ i = wn (G i) (ρ (G i 6)) := if_pos ⟨ht, q3⟩
          have hrep := cP_rep w hA (r := i) (gm n z G ρ i)
          rw [← mx_s, eg] at hrep
          have hr10 := hρ (G i 6) (by omega)
          by_cases q4 : nI (G i 6) = p4
          · refine ⟨_, hrep, ?_⟩
            rw [if_neg (fun k => k q4), e_rd _ _ hi (by omega), hs, h1 _ (by omega) q4, c_withNumber hv (by omega), e_b1, e_wrJ _ _ _ hi (by omega), e_nm, nI_1]
          · rw [if_pos q4]
            by_cases q5 : nI (G i 6) < p1
            · have e := h2 _ (by omega) q4 (Or.inl q5)
              refine ⟨s, ?_, by rw [if_pos q5, e_nm, nI_1]⟩
              rw [mx_same ρ (by rw [eg, e, wn_id])]
              exact w
            · rw [if_neg q5]
              by_cases q6 : p2 < nI (G i 6)
              · have e := h2 _ (by omega) q4 (Or.inr q6)
                refine ⟨s, ?_, by rw [if_pos q6, e_nm, nI_1]⟩
                rw [mx_same ρ (by rw [eg, e, wn_id])]
                exact w
              · refine ⟨_, hrep, ?_⟩
                rw [if_neg q6, e_rd _ _ hi (by omega), hs, h3 _ (by omega) q4 q5 q6, c_withNumber hv (by omega), e_b1, e_wrJ _ _ _ hi (by omega), e_nm, nI_1]
        · refine ⟨s, ?_, by rw [if_neg (show ¬ nI (G i 0) = 3 from fun k => q3 ((nI_eq (b := 3) (by omega) (by omega)).mp k)), e_nm, nI_1]⟩
          rw [mx_same ρ (if_neg (fun k => q3 k.2))]
          exact w)
    N 0 ci (by omega) (by omega) (by
      have : mx n z G ρ 0 = G := by funext r; exact if_neg (by omega)
      rw [this]; exact hc)
  obtain ⟨s, k1, k2⟩ := main
  refine ⟨s, ?_, cP_cong k2 (fun k hk => ⟨rfl, fun j hj => mx_end ha ρ k j hk hj⟩)⟩
  unfold f_X1_mendNumbers
  rw [show lp_X1_mendNumbers_3 (nI n) sz p1 p2 p3 p4 p5 N 0 ci = some s from k1, e_b1, e_u1]
theorem m_ren (ha : aP n z G) (hm : mP n z G p) (hN : 2000 ≤ N) {rm : Nat → Int32} {ρ : Nat → Nat} (hρ : ∀ k, k < 10 → ρ k < 10) (hr : ∀ k, k < n → (rm k = -9 ∧ ρ k = k) ∨ rm k = nI (ρ k)) (hr2 : ∀ k, n ≤ k → ρ k = k) :
    ∃ p', f_X7_rename N rm p (nI n) = some p' ∧ mP n z (gm n z G ρ) p' := by
  have h8 := ha.1
  have main := lp_up (fun m i (s : Nat → Int32) => lp_X7_rename_2 rm (nI n) m (nI i) s) 32 (fun i s => mP n z (mx n z G ρ i) s) (fun s => mP n z (mx n z G ρ 32) s)
    (fun m s w => ⟨s, by
      simp only [lp_X7_rename_2]
      rw [if_pos (show (32 : Int32) ≤ nI 32 from by decide)], w⟩)
    (fun m i s hi w => by
      right
      have hA := mx_a ha hρ i
      have e4 : nI i - nI (i / 4) * 4 = nI (i % 4) := by rw [← div4 i (by omega)]; exact mod4 i (by omega)
      simp only [lp_X7_rename_2]
      rw [if_neg (show ¬ (32 : Int32) ≤ nI i from nI_ge (b := 32) hi (by omega)), show f_X7_ref s (nI i) 6 = _ from m_refr hi (i := 6) (by omega), e_b1, show f_X7_ref s (nI i) 0 = _ from m_refr hi (i := 0) (by omega), e_b1, div4 i (by omega), e4, m_there hA w (by omega), e_b1]
      cases ht : th n z i with
      | false =>
        refine ⟨s, ?_, ?_⟩
        · rw [mx_same ρ (by unfold gm; rw [if_neg (by rw [ht]; intro k; cases k.1)])]
          exact w
        · by_cases k : s (9 + 8 * i + 0) = 3
          · rw [if_neg (fun q => q k), if_pos (by decide), e_nm, nI_1]
          · rw [if_pos k, e_nm, nI_1]
      | true =>
        have hv : vF (G i) := th_v ha ht
        have hb := vF_b hv
        have hs : ∀ j, j < 8 → s (9 + 8 * i + j) = nI (G i j) := fun j hj => by rw [mP_f w ht hj, mx_i]
        rw [hs 6 (by omega), hs 0 (by omega)]
        by_cases q3 : G i 0 = 3
        · rw [if_neg (show ¬ ¬ nI (G i 0) = 3 from fun k => k (by rw [q3]; rfl)), if_neg (by decide)]
          have eg : gm n z G ρ i = wn (G i) (ρ (G i 6)) := if_pos ⟨ht, q3⟩
          by_cases q : n ≤ G i 6
          · have e := hr2 _ q
            refine ⟨s, ?_, by rw [if_pos (nI_le q (by omega)), e_nm, nI_1]⟩
            rw [mx_same ρ (by rw [eg, e, wn_id])]
            exact w
          · rw [if_neg (nI_ge (by omega) (by omega)), e_rd _ _ (by omega) (by omega)]
            rcases hr (G i 6) (by omega) with ⟨e1, e2⟩ | e1
            · refine ⟨s, ?_, by rw [if_pos e1, e_nm, nI_1]⟩
              rw [mx_same ρ (by rw [eg, e2, wn_id])]
              exact w
            · have hr10 := hρ (G i 6) (by omega)
              refine ⟨upd s (9 + 8 * i + 6) (nI (ρ (G i 6))), ?_, by rw [e1, if_neg (n_m9 (by omega)), e_rd _ _ (by omega) (by omega), e1, show (9 : Int32) = nI 9 from rfl, show (8 : Int32) = nI 8 from rfl, show (6 : Int32) = nI 6 from rfl, pk_mul, nI_add, nI_add, e_wrI _ _ _ (by omega) (by omega), e_nm, nI_1]⟩
              rw [mx_s, eg]
              refine mP_rep w hA ⟨fun j hj => ?_, fun j hj => upd_n _ _ (by omega)⟩
              unfold wn
              by_cases e : j = 6
              · rw [e, upd_s, if_pos rfl]
              · rw [upd_n _ _ (by omega), if_neg e, hs j hj]
        · refine ⟨s, ?_, by rw [if_pos (show ¬ nI (G i 0) = 3 from fun k => q3 ((nI_eq (b := 3) (by omega) (by omega)).mp k)), e_nm, nI_1]⟩
          rw [mx_same ρ (if_neg (fun k => q3 k.2))]
          exact w)
    N 0 p (by omega) (by omega) (by
      have : mx n z G ρ 0 = G := by funext r; exact if_neg (by omega)
      rw [this]; exact hm)
  obtain ⟨s, k1, k2⟩ := main
  refine ⟨s, ?_, mP_cong k2 (fun k hk => ⟨rfl, fun j hj => mx_end ha ρ k j hk hj⟩)⟩
  unfold f_X7_rename
  rw [show lp_X7_rename_2 rm (nI n) N 0 p = some s from k1, e_b1, e_u1]
end
