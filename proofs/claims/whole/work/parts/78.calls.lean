/-! the relation between what the class holds and what the reference holds, piece by piece; the calls of the text and the slots -/
section
variable {n : Nat} {z : Nat → Nat} {G : Nat → Nat → Nat} {p sz : Nat → Int32} {ci : Nat → Int64} {N B : Nat} {nt ver : Int32} {fd ns ss bk : Nat → Int32} {sc : Nat → Int64}
def rT (tl ts : Int32) (sg tx : Nat → Int32) : Prop := ∃ len, tOK len tx ∧ tl = nI len ∧ ts = nI len ∧ sg = tx
noncomputable def alN (n : Nat) (z : Nat → Nat) (G : Nat → Nat → Nat) (P : Nat) : Nat := fb_ct (fun q => decide ((TC n z G P).2.1 q ≠ none)) 32
noncomputable def ddN (n : Nat) (z : Nat → Nat) (G : Nat → Nat → Nat) (P : Nat) : Nat := fb_ct (fun q => lf n z P q && decide ((TC n z G P).2.1 q = none)) 32
/-- the class has weighed all parts -/
def wK (n : Nat) (z : Nat → Nat) (G : Nat → Nat → Nat) (fp dp : Nat → Int32) : Prop := ∀ P, P < 2 ^ n → fp P = nI (alN n z G P) ∧ dp P = nI (ddN n z G P)
/-- the paper, as both hold it -/
def rN (B : Nat) (nt ver : Int32) (ci : Nat → Int64) (sz : Nat → Int32) (s : SV) (pv : Int32) (fp dp pg : Nat → Int32) : Prop := ∃ n z G v, v ≤ B ∧ ver = nI v ∧ aP n z G ∧ nt = nI n ∧ cP n z G (nI n) sz ci ∧ mP n z G pg ∧ sK n z G ver s ∧ vK v s ∧ vI v pv ∧ (pv = ver → wK n z G fp dp)
/-- the class's trial -/
def rY (B : Nat) (ver : Int32) (s : SV) : Prop := ∃ v, v ≤ B ∧ ver = nI v ∧ vK v s
theorem rN_up {C : Nat} {s : SV} {pv : Int32} {fp dp pg : Nat → Int32} (h : rN B nt ver ci sz s pv fp dp pg) (hC : B ≤ C) : rN C nt ver ci sz s pv fp dp pg := by
  obtain ⟨n, z, G, v, h1, h2⟩ := h
  exact ⟨n, z, G, v, by omega, h2⟩
theorem rY_up {C : Nat} {s : SV} (h : rY B ver s) (hC : B ≤ C) : rY C ver s := by
  obtain ⟨v, h1, h2⟩ := h
  exact ⟨v, by omega, h2⟩
theorem rN_new {v : Nat} {s : SV} {pv : Int32} {fp dp pg : Nat → Int32} (hv : v ≤ B) (hB : B < 2 ^ 30) (ha : aP n z G) (hc : cP n z G (nI n) sz ci) (hm : mP n z G pg) (hs : vK v s) (hp : vI v pv) : rN (B + 1) (nI n) (nI v + 1) ci sz s pv fp dp pg :=
  ⟨n, z, G, v + 1, by omega, nI_1 v, ha, rfl, hc, hm, by rw [nI_1]; exact sK_new hs (by omega) (by omega), vK_up hs (by omega), vI_up hp (by omega), fun w => absurd w (by rw [nI_1]; exact vI_ne hp (by omega) (by omega))⟩
/-- the study has been looked at or made -/
theorem rN_st {v : Nat} {s s' : SV} {pv : Int32} {fp dp pg : Nat → Int32} (hv : v ≤ B) (ha : aP n z G) (hc : cP n z G (nI n) sz ci) (hm : mP n z G pg) (hs : vK v s) (hp : vI v pv) (hw : pv = nI v → wK n z G fp dp) (k : sK n z G (nI v) s') (e : (s'.1 = s.1 ∧ s'.2.1 = s.2.1) ∨ (s'.1 = nI v ∧ s'.2.1 = nI v)) : rN B (nI n) (nI v) ci sz s' pv fp dp pg := by
  refine ⟨n, z, G, v, hv, rfl, ha, rfl, hc, hm, k, ?_, hp, hw⟩
  rcases e with ⟨e1, e2⟩ | ⟨e1, e2⟩
  · exact ⟨by rw [e1]; exact hs.1, by rw [e2]; exact hs.2⟩
  · exact ⟨by rw [e1]; exact vI_s v, by rw [e2]; exact vI_s v⟩
theorem in_255 (x : Int32) : f_X7_in x.toInt64 0 255 = some (if 0 ≤ x ∧ x ≤ 255 then 1 else 0) := x_in32 x 0 255
theorem s_write {tl ts : Int32} {sg tx : Nat → Int32} (h : rT tl ts sg tx) (t0 p1 : Int32) : ∃ a tl' sg' ts' tx', f_X6_write tl sg p1 = some (a, tl', sg') ∧ f_X7_write t0 ts tx p1 = some (a, 0, ts', tx') ∧ rT tl' ts' sg' tx' := by
  obtain ⟨len, hT, rfl, rfl, rfl⟩ := h
  have hl := hT.1
  generalize hX : f_X6_write _ _ _ = X
  generalize hY : f_X7_write _ _ _ _ = Y
  unfold f_X6_write at hX
  unfold f_X7_write at hY
  rw [in_255, e_b1] at hY
  have e0 : (0 : Int32).toInt = 0 := by decide
  have e255 : (255 : Int32).toInt = 255 := by decide
  by_cases q : 0 ≤ p1 ∧ p1 ≤ 255
  · rw [if_neg (show ¬ p1 < 0 from fun w => by rw [i_lt] at w; have := q.1; rw [i_le] at this; omega), if_pos q.2] at hX
    rw [if_pos q, if_pos (by decide)] at hY
    unfold f_X5_append at hX
    by_cases w : len < 120
    · rw [if_pos (show nI len < 120 from nI_lt (b := 120) w (by omega)), e_wrI _ _ _ w (by omega), nI_1, e_nm, e_b3, if_neg (by decide), show f_X5_length (nI (len + 1)) = some (nI (len + 1)) from rfl, e_b1] at hX
      rw [if_pos (show ¬ nI len = 120 from fun k => by have := (nI_eq (b := 120) (by omega) (by omega)).mp k; omega), e_wrI _ _ _ w (by omega), nI_1, e_nm] at hY
      subst hX hY
      refine ⟨_, _, _, _, _, rfl, rfl, len + 1, ⟨by omega, fun j hj => ?_⟩, rfl, rfl, rfl⟩
      by_cases e : j = len
      · rw [e, upd_s]
        have q1 := q.1
        have q2 := q.2
        rw [i_le] at q1 q2
        omega
      · rw [upd_n _ _ e]; exact hT.2 j (by omega)
    · rw [if_neg (show ¬ nI len < 120 from nI_nlt (b := 120) (by omega) (by omega)), e_b3, if_pos rfl] at hX
      rw [if_neg (show ¬ ¬ nI len = 120 from fun k => k (by rw [show len = 120 by omega]; rfl))] at hY
      subst hX hY
      exact ⟨_, _, _, _, _, rfl, rfl, len, hT, rfl, rfl, rfl⟩
  · rw [if_neg q, if_neg (fun k => k rfl)] at hY
    subst hY
    by_cases w : p1 < 0
    · rw [if_pos w] at hX
      subst hX
      exact ⟨_, _, _, _, _, rfl, rfl, len, hT, rfl, rfl, rfl⟩
    · rw [if_neg w, if_neg (show ¬ p1 ≤ 255 from fun k => q ⟨by rw [i_le]; rw [i_lt] at w; omega, k⟩)] at hX
      subst hX
      exact ⟨_, _, _, _, _, rfl, rfl, len, hT, rfl, rfl, rfl⟩
theorem s_wipe {tl ts : Int32} {sg tx : Nat → Int32} (h : rT tl ts sg tx) (t0 : Int32) : ∃ a tl' ts', f_X6_wipe tl = some (a, tl') ∧ f_X7_wipe t0 ts = some (a, 0, ts') ∧ rT tl' ts' sg tx := by
  obtain ⟨len, hT, rfl, rfl, rfl⟩ := h
  exact ⟨nI len, 0, 0, rfl, rfl, 0, ⟨by omega, fun j hj => absurd hj (Nat.not_lt_zero j)⟩, rfl, rfl, rfl⟩
theorem s_fault {tl ts : Int32} {sg tx : Nat → Int32} (h : rT tl ts sg tx) (hN : 2000 ≤ N) (t0 qn qv pl sn pl2 : Int32) (qc : Nat → Int64) (qs rp : Nat → Int32) :
    ∃ a qn' qv' qc' qs' pl' sn' pl2' rp', f_X6_fault N qn qv qc qs tl pl sn sg = some (a, qn', qv', qc', qs', pl', sn') ∧ f_X7_fault N t0 ts pl2 rp tx = some (a, 0, pl2', rp') := by
  obtain ⟨len, hT, rfl, rfl, rfl⟩ := h
  obtain ⟨fa, q, vc, n, z, G, ci', sz', rp', sg', i1, i2, i3, i4, i5⟩ := readJ hT (N := N) (by omega) pl sn qn qv pl2 qc qs rp
  refine ⟨fa, nI n, qv + nI vc, ci', sz', nI q, sg', nI q, rp', ?_, ?_⟩
  · unfold f_X6_fault; rw [i2, e_b7]
  · unfold f_X7_fault; rw [i3, e_b3]
theorem x_clr {s2 : Nat → Int32} (hN : 2000 ≤ N) : ∃ g, f_X3_clear N (nI 2) 2 s2 = some g ∧ ∀ k, k < 2 → g k = 0 := by
  have main := lp_up (fun m i (s : Nat → Int32) => lp_X3_clear_2 (nI 2) 2 m (nI i) s) 2 (fun i s => ∀ k, k < i → s k = 0) (fun s => ∀ k, k < 2 → s k = 0)
    (fun m s w => ⟨s, by
      simp only [lp_X3_clear_2]
      rw [if_pos (nI_le (Nat.le_refl _) (by omega))], w⟩)
    (fun m i s hi w => by
      refine Or.inr ⟨upd s i 0, fun k hk => ?_, ?_⟩
      · by_cases e : k = i
        · rw [e, upd_s]
        · rw [upd_n _ _ e]; exact w k (by omega)
      · simp only [lp_X3_clear_2]
        rw [if_neg (nI_ge hi (by omega)), e_wrZ _ _ _ hi (by omega), e_nar0, e_nm, nI_1])
    N 0 s2 (by omega) (by omega) (fun k hk => by omega)
  obtain ⟨g, g1, g2⟩ := main
  refine ⟨g, ?_, g2⟩
  unfold f_X3_clear
  rw [show lp_X3_clear_2 (nI 2) 2 N 0 s2 = some g from g1, e_b1, e_u1]
theorem kR_0 {f2 n2 s2 ik kp : Nat → Int32} {c2 : Nat → Int64} (h : ∀ k, k < 2 → f2 k = 0) (h2 : ∀ k, k < 2 → ik k = 0) : kR f2 n2 s2 c2 ik kp := fun s hs => Or.inl ⟨h s hs, h2 s hs⟩
theorem s_paper {tl ts ud np dg : Int32} {sg tx : Nat → Int32} {s : SV} {pv : Int32} {fp dp pg f2 n2 s2 ik kp : Nat → Int32} {c2 : Nat → Int64} (h : rT tl ts sg tx) (hn : rN B nt ver ci sz s pv fp dp pg) (hB : B < 2 ^ 30) (hu : uR ud np dg fd ns ss sc bk) (hk : kR f2 n2 s2 c2 ik kp) (hN : 2000 ≤ N) (t0 qn qv pl sn pl2 : Int32) (qc : Nat → Int64) (qs rp : Nat → Int32) :
    ∃ a ud' nt' ver' ci' sz' qn' qv' qc' qs' f2' pl' sn' pl2' dg' ik' pg' rp', f_X6_paper N ud nt ver ci sz qn qv qc qs (nI 2) f2 tl pl sn sg = some (a, ud', nt', ver', ci', sz', qn', qv', qc', qs', f2', pl', sn') ∧ f_X7_paper N t0 ts pl2 dg ik pg rp tx = some (a, 0, pl2', dg', ik', pg', rp') ∧
      rN (B + 1) nt' ver' ci' sz' s pv fp dp pg' ∧ uR ud' np dg' fd ns ss sc bk ∧ kR f2' n2 s2 c2 ik' kp := by
  obtain ⟨len, hT, rfl, rfl, rfl⟩ := h
  obtain ⟨fa, q, vc, n, z, G, qc', qs', rp', sg', i1, i2, i3, i4, i5⟩ := readJ hT (N := N) (by omega) pl sn qn qv pl2 qc qs rp
  obtain ⟨n0, z0, G0, v, h1, rfl, h3, rfl, h5, h6, h7, h8, h9, h10⟩ := hn
  by_cases w : fa = -9
  · obtain ⟨ha, hc, hm⟩ := i5 w
    obtain ⟨ci', sz', k1, k2⟩ := x_copyF ha hc (nI n0) (nI v) ci sz
    obtain ⟨f2', k3, k4⟩ := x_clr (s2 := f2) hN
    obtain ⟨pg', k5, k6⟩ := m_layP pg rp' hN
    have hm' := mP_lay ha hm k6
    refine ⟨nI n, 0, nI n, nI v + 1, ci', sz', nI n, qv + nI vc, qc', qs', f2', nI q, sg', nI q, 0, upd (upd ik 0 0) 1 0, pg', rp', ?_, ?_, rN_new h1 hB ha k2 hm' h8 h9, uR_0 hu, kR_0 k4 (fun k hk => ?_)⟩
    · unfold f_X6_paper
      rw [i2, e_b7, if_pos w, k1, e_b4, k3, e_b1, show f_X1_notes (nI n) = some (nI n) from rfl, e_b1]
    · unfold f_X7_paper
      rw [i3, e_b3, if_pos w, k5, e_b1, show ∀ k, pn_wrZ (β := Int32 × Int32 × Int32 × Int32 × (Nat → Int32) × (Nat → Int32) × (Nat → Int32)) 2 ik 0 0 k = k (upd ik 0 0) from fun k => by rw [show pn_wrZ 2 ik 0 0 k = _ from e_wrZ (k := 0) ik 0 k (by omega) (by omega), e_nar0],
        show ∀ f k, pn_wrZ (β := Int32 × Int32 × Int32 × Int32 × (Nat → Int32) × (Nat → Int32) × (Nat → Int32)) 2 f 1 0 k = k (upd f 1 0) from fun f k => by rw [show pn_wrZ 2 f 1 0 k = _ from e_wrZ (k := 1) f 0 k (by omega) (by omega), e_nar0], rd0, hm'.1]
    · by_cases e : k = 1
      · rw [e, upd_s]
      · rw [upd_n _ _ e, show k = 0 by omega, upd_s]
  · refine ⟨-3, ud, nI n0, nI v, ci, sz, nI n, qv + nI vc, qc', qs', f2, nI q, sg', nI q, dg, ik, pg, rp', ?_, ?_, ⟨n0, z0, G0, v, by omega, rfl, h3, rfl, h5, h6, h7, h8, h9, h10⟩, hu, hk⟩
    · unfold f_X6_paper
      rw [i2, e_b7, if_neg w]
    · unfold f_X7_paper
      rw [i3, e_b3, if_neg w]
theorem s_reference {s : SV} {pv : Int32} {fp dp pg : Nat → Int32} (hn : rN B nt ver ci sz s pv fp dp pg) (t0 p1 p2 p3 : Int32) : ∃ a, f_X6_reference nt ci sz p1 p2 p3 = some a ∧ f_X7_reference t0 pg p1 p2 p3 = some (a, 0) := by
  obtain ⟨n, z, G, v, h1, rfl, ha, rfl, hc, hm, h7, h8, h9, h10⟩ := hn
  generalize hX : f_X6_reference _ _ _ _ _ _ = X
  generalize hY : f_X7_reference _ _ _ _ _ = Y
  unfold f_X6_reference at hX
  unfold f_X7_reference at hY
  by_cases q : pl n z p1 p2
  · rw [(x_hasRef ha hc p1 p2).1 q, e_b1, if_pos (by decide)] at hX
    rw [(m_hasRef ha hm p1 p2).1 q, e_b1, if_pos (by decide)] at hY
    obtain ⟨a, b, k1, k2, rfl, rfl, k3⟩ := pl_of ha.1 q (fun k hk => (ha.2 k hk).2.1)
    have r32 := th_lt k3 ha.1
    have hv := th_v ha k3
    have hb := vF_b hv
    rw [x_slot, e_b1, x_cite r32, e_b1, cP_c hc k3] at hX
    by_cases w : p3 = 0 ∨ p3 = 1 ∨ p3 = 2
    · rw [(x_in02 p3).1 w, e_b1, if_pos (by decide), four_add, e_nm, show f_X7_ref pg (nI (4 * a + b)) 0 = _ from m_refT ha hm k3 (i := 0) (by omega), e_b1] at hY
      rcases w with rfl | rfl | rfl
      · rw [if_pos rfl, c_form hv, e_b1] at hX
        rw [if_pos (by decide), if_neg (fun w => w rfl)] at hY
        subst hX hY
        exact ⟨_, rfl, rfl⟩
      · rw [if_neg (by decide), if_pos rfl, c_pin hv, e_b1, e_b1] at hX
        rw [if_neg (fun w => w rfl), show f_X7_ref pg (nI (4 * a + b)) 7 = _ from m_refT ha hm k3 (i := 7) (by omega), e_b1, e_b1] at hY
        by_cases g : G (4 * a + b) 7 = 0
        · rw [if_neg (fun w => w (by rw [g]; rfl))] at hX hY
          subst hX hY
          exact ⟨_, rfl, rfl⟩
        · rw [if_pos (nI_ne0 (by omega) (by omega))] at hX hY
          subst hX hY
          exact ⟨_, rfl, rfl⟩
      · rw [if_neg (by decide), if_neg (by decide), if_pos rfl, c_form hv, e_b1] at hX
        rw [if_pos (by decide), if_pos (by decide)] at hY
        by_cases g : G (4 * a + b) 0 = 3
        · rw [if_neg (show ¬ ¬ nI (G (4 * a + b) 0) = 3 from fun w => w (by rw [g]; rfl)), c_number hv, e_b1] at hX
          rw [if_neg (show ¬ ¬ nI (G (4 * a + b) 0) = 3 from fun w => w (by rw [g]; rfl)), show f_X7_ref pg (nI (4 * a + b)) 6 = _ from m_refT ha hm k3 (i := 6) (by omega), e_b1] at hY
          subst hX hY
          exact ⟨_, rfl, rfl⟩
        · rw [if_pos (show ¬ nI (G (4 * a + b) 0) = 3 from fun w => g ((nI_eq (b := 3) (by omega) (by omega)).mp w))] at hX hY
          subst hX hY
          exact ⟨_, rfl, rfl⟩
    · rw [if_neg (fun k => w (Or.inl k)), if_neg (fun k => w (Or.inr (Or.inl k))), if_neg (fun k => w (Or.inr (Or.inr k)))] at hX
      rw [(x_in02 p3).2 w, e_b1, if_neg (fun k => k rfl)] at hY
      subst hX hY
      exact ⟨_, rfl, rfl⟩
  · rw [(x_hasRef ha hc p1 p2).2 q, e_b1, if_neg (fun k => k rfl)] at hX
    rw [(m_hasRef ha hm p1 p2).2 q, e_b1, if_neg (fun k => k rfl)] at hY
    subst hX hY
    exact ⟨_, rfl, rfl⟩
end
