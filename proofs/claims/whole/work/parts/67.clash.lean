/-! clashes, notes and references of a case; the call aCase -/
section
variable {n : Nat} {z : Nat → Nat} {G : Nat → Nat → Nat} {p sz : Nat → Int32} {ci : Nat → Int64} {L N : Nat} {ver lv sv pr cs0 ct av dd fl c1 c0 l0 : Int32} {ca fs fb mb nb ra lk cf fi rn cf0 fi0 lb0 rn0 : Nat → Int32}
def sameN (G : Nat → Nat → Nat) (r s : Nat) : Bool := decide (G r 1 = G s 1) && decide (G r 2 = G s 2)
noncomputable def clB (n : Nat) (z : Nat → Nat) (G : Nat → Nat → Nat) (c r : Nat) : Bool := own n z G c r && !sameN G r (kf n z G c)
theorem vF_5 {F : Nat → Nat} (h : vF F) (h0 : F 0 = 0) : F 5 = 0 := (vF_fu h h0).2.2.2.2.1
theorem x_same (ha : aP n z G) {r s : Nat} (hr : fu n z G r = true) (hs : fu n z G s = true) : f_X0_haveSameName (lN (en (G r))) (lN (en (G s))) = some (b1 (sameN G r s)) := by
  have v1 := th_v ha (fu_th hr)
  have v2 := th_v ha (fu_th hs)
  have k1 := vF_b v1
  have k2 := vF_b v2
  have z1 := vF_5 v1 (fu_0 hr)
  have z2 := vF_5 v2 (fu_0 hs)
  unfold f_X0_haveSameName sameN
  rw [c_first v1, e_b1, c_first v2, e_b1, z1, z2, Nat.add_zero (G r 1), Nat.add_zero (G s 1)]
  by_cases q : G r 1 = G s 1
  · rw [if_neg (fun w => w (by rw [q])), c_second v1, e_b1, c_second v2, e_b1]
    by_cases q2 : G r 2 = G s 2
    · rw [if_neg (fun w => w (by rw [q2]))]; simp [q, q2, b1]
    · rw [if_pos (fun w => q2 ((nI_eq (by omega) (by omega)).mp w))]; simp [q2, b1]
  · rw [if_pos (fun w => q ((nI_eq (by omega) (by omega)).mp w))]; simp [q, b1]
theorem x_clash (ha : aP n z G) (hc : cP n z G (nI n) sz ci) (h : dF n z G cs0 av dd ca fs fb mb nb ra) (hN : 2000 ≤ N) {c : Nat} (hk : c < KK n z G) : f_X4_clashes N cs0 fs mb ci (nI c) = some (b1 (decide (0 < fb_ct (clB n z G c) 32))) := by
  have main := lp_any (fun m i => lp_X4_clashes_2 cs0 fs mb ci (nI c) m (nI i)) 32 (clB n z G c) (.inl ()) (.inr ())
    (fun m => by
      simp only [lp_X4_clashes_2]
      rw [if_pos (show (32 : Int32) ≤ nI 32 from by decide)])
    (fun m i hi => by
      simp only [lp_X4_clashes_2]
      rw [if_neg (show ¬ (32 : Int32) ≤ nI i from nI_ge (b := 32) hi (by omega)), x_mem h hk hi, e_b1]
      unfold clB
      cases ho : own n z G c i with
      | false => rw [show (fu n z G i && decide (FF n z G i = some c)) = false from ho, if_neg (by decide), e_nm, nI_1, if_neg (by simp)]
      | true =>
        have hf := own_fu ho
        rw [show (fu n z G i && decide (FF n z G i = some c)) = true from ho, if_pos (by decide), x_cite hi, e_b1, cP_c hc (fu_th hf), x_fc ha hc h hk, e_b1, x_same ha hf (kf_ok ha hk).2, e_b1]
        cases sameN G i (kf n z G c) with
        | true => rw [if_pos (by decide), e_nm, nI_1, if_neg (by decide)]
        | false => rw [if_neg (by decide), if_pos (by decide)])
    N (by omega)
  unfold f_X4_clashes
  rw [show lp_X4_clashes_2 cs0 fs mb ci (nI c) N 0 = _ from main, e_b1]
  by_cases q : 0 < fb_ct (clB n z G c) 32
  · rw [if_pos q, e_s2l, decide_eq_true q]; rfl
  · rw [if_neg q, e_s2r, decide_eq_false q]; rfl
theorem m_c102 (rc : Int32 → Int32 → Option Int32) (b o l : Bool) (i : Nat) : j_X7_clashes_102 rc (b1 b) (nI i) (b1 o) (b1 l) = rc (b1 (b || (o && !l))) (nI (i + 1)) := by
  unfold j_X7_clashes_102
  cases b with
  | true => rw [if_pos (by decide), e_nm, nI_1]; rfl
  | false =>
    rw [if_neg (by decide)]
    cases o with
    | false => rw [if_pos (by decide), e_nm, nI_1]; rfl
    | true =>
      rw [if_neg (by decide)]
      cases l with
      | true => rw [if_pos (by decide), e_nm, nI_1]; rfl
      | false => rw [if_neg (by decide), e_nm, nI_1]; rfl
theorem m_c43 (ha : aP n z G) (hm : mP n z G p) (h : mF n z G c1 cf fi rn) {c i : Nat} (hk : c < KK n z G) (hi : i < 32) (rc : Int32 → Int32 → Option Int32) (b o : Bool) (ho : o = true → th n z i = true) :
    j_X7_clashes_43 rc cf p (nI c) (b1 b) (nI i) (b1 o) = rc (b1 (b || (o && !sameN G i (kf n z G c)))) (nI (i + 1)) := by
  have hK := KK_le (n := n) (z := z) (G := G)
  have hb2 := vF_b (th_v ha (kf_th ha hk))
  unfold j_X7_clashes_43
  rw [show (1 : Int32) = nI 1 from rfl, show (2 : Int32) = nI 2 from rfl, m_refr hi (by omega), e_b1, m_cf ha hm h hk (by omega)]
  cases o with
  | false =>
    rw [show (0 : Int32) = b1 false from rfl, show nI 1 = b1 true from rfl]
    by_cases q : p (9 + 8 * i + 1) = nI (G (kf n z G c) 1)
    · rw [if_neg (fun w => w q), m_refr hi (by omega), e_b1, m_cf ha hm h hk (by omega)]
      by_cases q2 : p (9 + 8 * i + 2) = nI (G (kf n z G c) 2)
      · rw [if_neg (fun w => w q2), m_c102]; simp
      · rw [if_pos q2, m_c102]; simp
    · rw [if_pos q, m_c102]; simp
  | true =>
    have hth := ho rfl
    have hb1 := vF_b (th_v ha hth)
    have g1 : G i 1 < 10000 := vF_lt (th_v ha hth) (by omega)
    have g2 : G (kf n z G c) 1 < 10000 := vF_lt (th_v ha (kf_th ha hk)) (by omega)
    rw [mP_f hm hth (by omega)]
    unfold sameN
    by_cases q : G i 1 = G (kf n z G c) 1
    · rw [if_neg (fun w => w (by rw [q])), m_refr hi (by omega), e_b1, m_cf ha hm h hk (by omega), mP_f hm hth (by omega)]
      by_cases q2 : G i 2 = G (kf n z G c) 2
      · rw [if_neg (fun w => w (by rw [q2])), show nI 1 = b1 true from rfl, m_c102]; simp [q, q2]
      · rw [if_pos (fun w => q2 ((nI_eq (by omega) (by omega)).mp w)), show (0 : Int32) = b1 false from rfl, m_c102]; simp [q2]
    · rw [if_pos (fun w => q ((nI_eq (by omega) (by omega)).mp w)), show (0 : Int32) = b1 false from rfl, m_c102]; simp [q]
theorem m_clash (ha : aP n z G) (hm : mP n z G p) (h : mF n z G c1 cf fi rn) (hN : 2000 ≤ N) {c : Nat} (hk : c < KK n z G) : f_X7_clashes N cf fi p (nI c) = some (b1 (decide (0 < fb_ct (clB n z G c) 32))) := by
  have hK := KK_le (n := n) (z := z) (G := G)
  have main := lp_or (fun m i s => lp_X7_clashes_4 cf fi p (nI c) m s (nI i)) 32 (clB n z G c) (fun s => s)
    (fun m s => by
      simp only [lp_X7_clashes_4]
      rw [if_pos (show (32 : Int32) ≤ nI 32 from by decide)])
    (fun m i b hi => by
      simp only [lp_X7_clashes_4]
      rw [if_neg (show ¬ (32 : Int32) ≤ nI i from nI_ge (b := 32) hi (by omega)), m_all ha hm, e_b1, m_sp ha hm (full_31 n) (by omega), e_b1, sp_full ha]
      unfold clB own
      cases hu : fu n z G i with
      | false => rw [if_pos (by decide), show (0 : Int32) = b1 false from rfl, m_c43 ha hm h hk hi _ b false (fun w => by cases w)]; rfl
      | true =>
        rw [if_neg (by decide), e_rd _ _ hi (by omega), (h.2.2 i hi).1]
        by_cases q : FF n z G i = some c
        · rw [if_neg (fun w => w ((oI_c _ (fun d w => by have := FF_32 ha _ d w; omega) (by omega)).mpr q)), show (1 : Int32) = b1 true from rfl, m_c43 ha hm h hk hi _ b true (fun _ => fu_th hu), decide_eq_true q]; rfl
        · rw [if_pos (fun w => q ((oI_c _ (fun d w => by have := FF_32 ha _ d w; omega) (by omega)).mp w)), show (0 : Int32) = b1 false from rfl, m_c43 ha hm h hk hi _ b false (fun w => by cases w), decide_eq_false q]; rfl)
    N (by omega)
  unfold f_X7_clashes
  rw [show lp_X7_clashes_4 cf fi p (nI c) N 0 0 = _ from main, e_b1, e_u1, b1_bz]
/-! the notes that find it -/
noncomputable def fnd (n : Nat) (z : Nat → Nat) (G : Nat → Nat → Nat) (t c : Nat) : Bool := fndU n z (full n) (FF n z G) t c 4
theorem fnd_iff (ha : aP n z G) {t c : Nat} (ht : t < 8) : fnd n z G t c = true ↔ ∃ r, r < 32 ∧ r / 4 = t ∧ FF n z G r = some c := by
  have e : ∀ j, j ≤ 4 → (fndU n z (full n) (FF n z G) t c j = true ↔ ∃ r, r < 32 ∧ r / 4 = t ∧ r % 4 < j ∧ FF n z G r = some c) := by
    intro j
    induction j with
    | zero => intro _; exact ⟨fun w => (by cases w), fun ⟨r, _, _, w, _⟩ => absurd w (by omega)⟩
    | succ j ih =>
      intro hj
      rw [fndU_s, Bool.or_eq_true, ih (by omega), Bool.and_eq_true, decide_eq_true_eq]
      constructor
      · rintro (⟨r, h1, h2, h3, h4⟩ | ⟨h1, h2⟩)
        · exact ⟨r, h1, h2, by omega, h4⟩
        · exact ⟨4 * t + j, by omega, by omega, by omega, h2⟩
      · rintro ⟨r, h1, h2, h3, h4⟩
        by_cases q : r % 4 < j
        · exact Or.inl ⟨r, h1, h2, q, h4⟩
        · have er : 4 * t + j = r := by omega
          rw [er]
          exact Or.inr ⟨by rw [lf_full ha]; exact FF_th ha h1 (by rw [h4]; intro w; cases w), h4⟩
  unfold fnd
  rw [e 4 (Nat.le_refl _)]
  exact ⟨fun ⟨r, h1, h2, _, h4⟩ => ⟨r, h1, h2, h4⟩, fun ⟨r, h1, h2, h4⟩ => ⟨r, h1, h2, by omega, h4⟩⟩
theorem x_fbn {t : Nat} (ht : t < 8) : f_X4_foundByNote fb (nI t) = some (fb t) := by
  unfold f_X4_foundByNote
  rw [if_neg (nI_pos (by omega)), if_neg (show ¬ (8 : Int32) ≤ nI t from nI_ge (b := 8) ht (by omega)), e_rd _ _ ht (by omega)]
theorem x_ifn (h : dF n z G cs0 av dd ca fs fb mb nb ra) {c t : Nat} (hc : c < 32) (ht : t < 8) : f_X4_isFoundByNote fb (nI c) (nI t) = some (b1 (fnd n z G t c)) := by
  unfold f_X4_isFoundByNote
  rw [x_fbn ht, e_b1]
  simp only [q_is _ hc, h.2.2.2.2.2.1 t c ht hc]
  unfold fnd
  cases fndU n z (full n) (FF n z G) t c 4 <;> simp [b1]
theorem x_notes (h : dF n z G cs0 av dd ca fs fb mb nb ra) (hN : 2000 ≤ N) {c : Nat} (hc : c < 32) : ∃ x, f_X4_notesFinding N fb (nI c) = some x ∧ ∀ i, i < 32 → bt x i = (decide (i < 8) && fnd n z G i c) := by
  have main := lp_up (fun n' i (s : Int32) => lp_X4_notesFinding_4 fb (nI c) n' s (nI i)) 8 (fun i s => ∀ j, j < 32 → bt s j = (decide (j < i) && fnd n z G j c)) (fun s => ∀ j, j < 32 → bt s j = (decide (j < 8) && fnd n z G j c))
    (fun m s q => ⟨s, by
      simp only [lp_X4_notesFinding_4]
      rw [if_pos (show (8 : Int32) ≤ nI 8 from by decide)], q⟩)
    (fun m i s hi q => by
      right
      simp only [lp_X4_notesFinding_4]
      rw [if_neg (show ¬ (8 : Int32) ≤ nI i from nI_ge (b := 8) hi (by omega)), x_ifn h hc hi, e_b1]
      cases hf : fnd n z G i c with
      | false =>
        refine ⟨s, fun j hj => ?_, by rw [if_pos (by decide), e_nm, nI_1]⟩
        rw [q j hj]
        by_cases e : j = i
        · subst e; rw [hf]; simp
        · rw [show decide (j < i) = decide (j < i + 1) from by rw [decide_eq_decide]; omega]
      | true =>
        refine ⟨s ||| ((1 : Int32) <<< (nI i &&& 31)), fun j hj => ?_, by rw [if_neg (by decide), e_nm, e_nm, nI_1]⟩
        rw [bt_set _ (by omega) hj, q j hj]
        by_cases e : j = i
        · subst e; rw [hf]; simp
        · rw [show decide (j < i) = decide (j < i + 1) from by rw [decide_eq_decide]; omega]; simp [e])
    N 0 0 (by omega) (by omega) (fun j _ => by rw [bt_0]; simp)
  obtain ⟨s, a1, a2⟩ := main
  refine ⟨s, ?_, a2⟩
  unfold f_X4_notesFinding
  rw [show lp_X4_notesFinding_4 fb (nI c) N 0 0 = some s from a1, e_b1, e_u1]
theorem m_notes (ha : aP n z G) (h : mF n z G c1 cf fi rn) (hN : 2000 ≤ N) {c : Nat} (hc : c < 32) : ∃ x, f_X7_notesOf N fi (nI c) = some x ∧ ∀ i, i < 32 → bt x i = (decide (i < 8) && fnd n z G i c) := by
  have main := lp_up (fun n' i (s : Int32) => lp_X7_notesOf_4 fi (nI c) n' s (nI i)) 32 (fun i s => ∀ j, j < 32 → (bt s j = true ↔ ∃ r, r < i ∧ r / 4 = j ∧ FF n z G r = some c)) (fun s => ∀ j, j < 32 → (bt s j = true ↔ ∃ r, r < 32 ∧ r / 4 = j ∧ FF n z G r = some c))
    (fun m s q => ⟨s, by
      simp only [lp_X7_notesOf_4]
      rw [if_pos (show (32 : Int32) ≤ nI 32 from by decide)], q⟩)
    (fun m i s hi q => by
      right
      simp only [lp_X7_notesOf_4]
      rw [if_neg (show ¬ (32 : Int32) ≤ nI i from nI_ge (b := 32) hi (by omega)), e_rd _ _ hi (by omega), (h.2.2 i hi).1]
      by_cases w : FF n z G i = some c
      · refine ⟨s ||| ((1 : Int32) <<< (nI (i / 4) &&& 31)), fun j hj => ?_, by rw [if_neg (fun k => k ((oI_c _ (fun d w => by have := FF_32 ha _ d w; omega) (by omega)).mpr w)), div4 i (by omega), e_nm, e_nm, nI_1]⟩
        rw [bt_set _ (by omega) hj, Bool.or_eq_true, q j hj, decide_eq_true_eq]
        constructor
        · rintro (⟨r, h1, h2, h3⟩ | h1)
          · exact ⟨r, by omega, h2, h3⟩
          · exact ⟨i, by omega, h1.symm, w⟩
        · rintro ⟨r, h1, h2, h3⟩
          by_cases e : r = i
          · subst e; exact Or.inr h2.symm
          · exact Or.inl ⟨r, by omega, h2, h3⟩
      · refine ⟨s, fun j hj => ?_, by rw [if_pos (fun k => w ((oI_c _ (fun d w => by have := FF_32 ha _ d w; omega) (by omega)).mp k)), e_nm, e_nm, nI_1, show s ||| 0 = s from by simp]⟩
        rw [q j hj]
        constructor
        · rintro ⟨r, h1, h2, h3⟩
          exact ⟨r, by omega, h2, h3⟩
        · rintro ⟨r, h1, h2, h3⟩
          by_cases e : r = i
          · subst e; exact absurd h3 w
          · exact ⟨r, by omega, h2, h3⟩)
    N 0 0 (by omega) (by omega) (fun j _ => by rw [bt_0]; exact ⟨fun w => (by cases w), fun ⟨r, w, _⟩ => absurd w (by omega)⟩)
  obtain ⟨s, a1, a2⟩ := main
  refine ⟨s, ?_, fun i hi => ?_⟩
  · unfold f_X7_notesOf
    rw [show lp_X7_notesOf_4 fi (nI c) N 0 0 = some s from a1, e_b1, e_u1]
  · rw [Bool.eq_iff_iff, a2 i hi, Bool.and_eq_true, decide_eq_true_eq]
    constructor
    · rintro ⟨r, h1, h2, h3⟩
      exact ⟨by omega, (fnd_iff ha (by omega)).mpr ⟨r, h1, h2, h3⟩⟩
    · rintro ⟨h1, h2⟩
      exact (fnd_iff ha h1).mp h2
/-! the references that find it -/
theorem x_hasSlot (ha : aP n z G) (hc : cP n z G (nI n) sz ci) {r : Nat} (hr : r < 32) : f_X1_hasSlot (nI n) sz (nI r) = some (b1 (th n z r)) := by
  have h8 := ha.1
  have e4 : nI r - nI (r / 4) * 4 = nI (r % 4) := by rw [← div4 r (by omega)]; exact mod4 r (by omega)
  unfold f_X1_hasSlot th
  rw [if_neg (nI_pos (by omega)), div4 r (by omega), x_sizeI ha hc, e_b1, e4, nI_toInt (by omega), nI_clamp (by omega)]
  by_cases q : r / 4 < n
  · have hz := (ha.2 _ q).2.1
    rw [if_pos (show 0 ≤ ((r / 4 : Nat) : Int) ∧ ((r / 4 : Nat) : Int) < (n : Int) from ⟨by omega, by omega⟩)]
    by_cases q2 : r % 4 < z (r / 4)
    · rw [if_neg (nI_ge q2 (by omega))]; simp [q, q2, b1]
    · rw [if_pos (nI_le (by omega) (by omega))]; simp [q2, b1]
  · rw [if_neg (show ¬ (0 ≤ ((r / 4 : Nat) : Int) ∧ ((r / 4 : Nat) : Int) < (n : Int)) by omega), if_pos (nI_le (Nat.zero_le _) (by omega))]; simp [q, b1]
theorem x_refsOf (ha : aP n z G) (hc : cP n z G (nI n) sz ci) (h : dF n z G cs0 av dd ca fs fb mb nb ra) (hN : 2000 ≤ N) {c : Nat} (hk : c < 32) : f_X4_referencesFinding N ca (nI n) sz (nI c) = some (nI (fb_ct (fun q => decide (FF n z G q = some c)) 32)) := by
  have main := lp_cnt (fun m i s => lp_X4_referencesFinding_4 ca (nI n) sz (nI c) m s (nI i)) 32 (fun q => decide (FF n z G q = some c)) (fun s => s)
    (fun m s => by
      simp only [lp_X4_referencesFinding_4]
      rw [if_pos (show (32 : Int32) ≤ nI 32 from by decide)])
    (fun m i k hi => by
      simp only [lp_X4_referencesFinding_4]
      rw [if_neg (show ¬ (32 : Int32) ≤ nI i from nI_ge (b := 32) hi (by omega)), x_hasSlot ha hc hi, e_b1]
      cases ht : th n z i with
      | false =>
        have hn : ¬ FF n z G i = some c := fun w => by
          rw [FF_th ha hi (by rw [w]; intro v; cases v)] at ht; cases ht
        rw [if_pos (by decide), e_nm, nI_1, if_neg (by simp [hn])]; rfl
      | true =>
        rw [if_neg (by decide), x_caseOf hi, e_b1, (h.2.2.2.2.1 i hi ht).1]
        cases hF : FF n z G i with
        | none => rw [show oJ none = -1 from rfl, if_pos (show ¬ (-1 : Int32) = nI c from m1_nI (by omega)), e_nm, nI_1, if_neg (by simp)]; rfl
        | some d =>
          have hd := FF_32 ha i d hF
          rw [oJ_s]
          by_cases q : d = c
          · subst q; rw [if_neg (fun w => w rfl), e_nm, e_nm, nI_1, nI_1, if_pos (by simp)]
          · rw [if_pos (fun w => q ((nI_eq (by omega) (by omega)).mp w)), e_nm, nI_1, if_neg (by simp [q])]; rfl)
    N (by omega)
  unfold f_X4_referencesFinding
  rw [show lp_X4_referencesFinding_4 ca (nI n) sz (nI c) N 0 0 = _ from main, e_b1, e_u1]
theorem m_refsOf (ha : aP n z G) (h : mF n z G c1 cf fi rn) (hN : 2000 ≤ N) {c : Nat} (hk : c < 32) : f_X7_refsOf N fi (nI c) = some (nI (fb_ct (fun q => decide (FF n z G q = some c)) 32)) := by
  have main := lp_cnt (fun m i s => lp_X7_refsOf_4 fi (nI c) m s (nI i)) 32 (fun q => decide (FF n z G q = some c)) (fun s => s)
    (fun m s => by
      simp only [lp_X7_refsOf_4]
      rw [if_pos (show (32 : Int32) ≤ nI 32 from by decide)])
    (fun m i k hi => by
      simp only [lp_X7_refsOf_4]
      rw [if_neg (show ¬ (32 : Int32) ≤ nI i from nI_ge (b := 32) hi (by omega)), e_rd _ _ hi (by omega), (h.2.2 i hi).1]
      by_cases w : FF n z G i = some c
      · rw [if_neg (fun k => k ((oI_c _ (fun d w => by have := FF_32 ha _ d w; omega) (by omega)).mpr w)), e_nm, e_nm, nI_1, nI_1, if_pos (by simp [w])]
      · rw [if_pos (fun k => w ((oI_c _ (fun d w => by have := FF_32 ha _ d w; omega) (by omega)).mp k)), e_nm, e_nm, nI_1, i_p0, if_neg (by simp [w])]; rfl)
    N (by omega)
  unfold f_X7_refsOf
  rw [show lp_X7_refsOf_4 fi (nI c) N 0 0 = _ from main, e_b1, e_u1]
theorem m_cfI (ha : aP n z G) (hm : mP n z G p) (h : mF n z G c1 cf fi rn) {c : Nat} (hk : c < KK n z G) : f_X7_initial cf p (nI c) = some (nI (G (kf n z G c) 1)) := by
  unfold f_X7_initial
  rw [show (1 : Int32) = nI 1 from rfl, m_cf ha hm h hk (by omega)]
theorem s_aCase (ha : aP n z G) (hc : cP n z G (nI n) sz ci) (hm : mP n z G p) (hN : 10000 ≤ N) (h : sK n z G ver (lv, sv, pr, fl, cs0, ct, av, dd, ca, fs, fb, lk, mb, nb, ra)) (t0 p1 p2 : Int32) :
    ∃ a s' m', f_X6_aCase N lv sv pr fl cs0 ct av dd ca fs fb lk mb nb (nI n) ver ci sz ra p1 p2 = some (a, s') ∧ sK n z G ver s' ∧ (s'.1 = ver ∧ s'.2.1 = ver) ∧ f_X7_aCase N t0 c0 l0 cf0 fi0 lb0 p rn0 p1 p2 = some (a, m') := by
  have hK := KK_le (n := n) (z := z) (G := G)
  obtain ⟨pr2, fl2, cs2, ct2, av2, dd2, ca2, fs2, fb2, lk2, mb2, nb2, ra2, e1, e2, e3⟩ := x_studyF (N := N) ha hc (by omega) h
  obtain ⟨c1, l1, cf, fi, lb, rn, f1, f2⟩ := m_FA (N := N) ha hm (by omega) c0 l0 cf0 fi0 lb0 rn0
  generalize hX : f_X6_aCase _ _ _ _ _ _ _ _ _ _ _ _ _ _ _ _ _ _ _ _ _ _ = X
  generalize hY : f_X7_aCase _ _ _ _ _ _ _ _ _ _ _ = Y
  unfold f_X6_aCase at hX
  unfold f_X7_aCase at hY
  rw [e1, e_b15] at hX
  rw [f1, e_b6, f2.1, x_inr p1 (by omega), e_b1] at hY
  by_cases q0 : p1 < 0
  · rw [if_pos q0] at hX
    rw [if_neg (show ¬ (0 ≤ p1.toInt ∧ p1.toInt < (KK n z G : Int)) from by rw [i_lt, Int32.toInt_zero] at q0; omega), if_neg (fun w => w rfl)] at hY
    subst hX hY
    exact ⟨_, _, _, rfl, sK_st e2 e3, ⟨rfl, rfl⟩, rfl⟩
  · rw [if_neg q0, show f_X4_cases cs2 = some cs2 from rfl, e_b1] at hX
    obtain ⟨c, hc31, rfl⟩ := nI_of q0
    by_cases q1 : c < KK n z G
    · rw [if_pos (show nI c < cs2 from by rw [e3.1]; exact nI_lt q1 (by omega)), x_fc ha hc e3 q1, e_b1] at hX
      rw [if_pos (show 0 ≤ (nI c).toInt ∧ (nI c).toInt < (KK n z G : Int) from by rw [nI_toInt hc31]; omega), if_pos (by decide)] at hY
      have hv := th_v ha (kf_th ha q1)
      have hz5 := vF_5 hv (fu_0 (kf_ok ha q1).2)
      by_cases w0 : p2 = 0
      · subst w0
        rw [if_pos rfl, c_first hv, e_b1, hz5] at hX
        rw [if_pos rfl, m_cfI ha hm f2 q1, e_b1] at hY
        subst hX hY
        exact ⟨_, _, _, rfl, sK_st e2 e3, ⟨rfl, rfl⟩, rfl⟩
      · rw [if_neg w0] at hX hY
        by_cases w1 : p2 = 1
        · subst w1
          rw [if_pos rfl, c_second hv, e_b1] at hX
          rw [if_pos rfl, show (2 : Int32) = nI 2 from rfl, m_cf ha hm f2 q1 (by omega)] at hY
          subst hX hY
          exact ⟨_, _, _, rfl, sK_st e2 e3, ⟨rfl, rfl⟩, rfl⟩
        · rw [if_neg w1] at hX hY
          by_cases w2 : p2 = 2
          · subst w2
            rw [if_pos rfl, c_report hv, e_b1] at hX
            rw [if_pos rfl, show (3 : Int32) = nI 3 from rfl, m_cf ha hm f2 q1 (by omega)] at hY
            subst hX hY
            exact ⟨_, _, _, rfl, sK_st e2 e3, ⟨rfl, rfl⟩, rfl⟩
          · rw [if_neg w2] at hX hY
            by_cases w3 : p2 = 3
            · subst w3
              rw [if_pos rfl, x_reports ha hc e3 (by omega) q1, e_b1] at hX
              rw [if_pos rfl, m_reports ha hm f2 hN (by omega), e_b1] at hY
              subst hX hY
              exact ⟨_, _, _, rfl, sK_st e2 e3, ⟨rfl, rfl⟩, rfl⟩
            · rw [if_neg w3] at hX hY
              by_cases w4 : p2 = 4
              · subst w4
                rw [if_pos rfl, x_clash ha hc e3 (by omega) q1, e_b1] at hX
                rw [if_pos rfl, m_clash ha hm f2 (by omega) q1, e_b1] at hY
                cases hd : decide (0 < fb_ct (clB n z G c) 32) with
                | false =>
                  rw [hd, if_pos (by decide)] at hX hY
                  subst hX hY
                  exact ⟨_, _, _, rfl, sK_st e2 e3, ⟨rfl, rfl⟩, rfl⟩
                | true =>
                  rw [hd, if_neg (by decide)] at hX hY
                  subst hX hY
                  exact ⟨_, _, _, rfl, sK_st e2 e3, ⟨rfl, rfl⟩, rfl⟩
              · rw [if_neg w4] at hX hY
                by_cases w5 : p2 = 5
                · subst w5
                  obtain ⟨x, x1, x2⟩ := x_notes e3 (N := N) (by omega) (c := c) (by omega)
                  obtain ⟨y, y1, y2⟩ := m_notes ha f2 (N := N) (by omega) (c := c) (by omega)
                  rw [if_pos rfl, x1, e_b1, bt_inj (x := x) (y := y) (fun i hi => by rw [x2 i hi, y2 i hi])] at hX
                  rw [if_pos rfl, y1, e_b1] at hY
                  subst hX hY
                  exact ⟨_, _, _, rfl, sK_st e2 e3, ⟨rfl, rfl⟩, rfl⟩
                · rw [if_neg w5] at hX hY
                  by_cases w6 : p2 = 6
                  · subst w6
                    rw [if_pos rfl, x_refsOf ha hc e3 (by omega) (by omega), e_b1] at hX
                    rw [if_pos rfl, m_refsOf ha f2 (by omega) (by omega), e_b1] at hY
                    subst hX hY
                    exact ⟨_, _, _, rfl, sK_st e2 e3, ⟨rfl, rfl⟩, rfl⟩
                  · rw [if_neg w6] at hX hY
                    subst hX hY
                    exact ⟨_, _, _, rfl, sK_st e2 e3, ⟨rfl, rfl⟩, rfl⟩
    · rw [if_neg (show ¬ nI c < cs2 from by rw [e3.1]; exact nI_nlt (by omega) hc31)] at hX
      rw [if_neg (show ¬ (0 ≤ (nI c).toInt ∧ (nI c).toInt < (KK n z G : Int)) from by rw [nI_toInt hc31]; omega), if_neg (fun w => w rfl)] at hY
      subst hX hY
      exact ⟨_, _, _, rfl, sK_st e2 e3, ⟨rfl, rfl⟩, rfl⟩
end
