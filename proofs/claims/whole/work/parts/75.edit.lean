/-! move, cut and put on a paper: the class -/
section
variable {n : Nat} {z : Nat → Nat} {G : Nat → Nat → Nat} {p sz : Nat → Int32} {ci : Nat → Int64} {N : Nat} {nt ver : Int32}
/-- new numbers of notes by a move, a cut, a put -/
def mvR (a b k : Nat) : Nat := if k = a then b else if a < k ∧ k ≤ b then k - 1 else if b ≤ k ∧ k < a then k + 1 else k
def cuR (n a k : Nat) : Nat := if a < k ∧ k < n then k - 1 else k
def puR (n a k : Nat) : Nat := if a ≤ k ∧ k < n then k + 1 else k
def mvG (n : Nat) (z : Nat → Nat) (G : Nat → Nat → Nat) (a b md : Nat) : Nat → Nat → Nat := reG (if md = 1 then gm n z G (mvR a b) else G) (rot a b)
def mvZ (z : Nat → Nat) (a b : Nat) : Nat → Nat := reZ z (rot a b)
def cuG (n : Nat) (z : Nat → Nat) (G : Nat → Nat → Nat) (a md : Nat) : Nat → Nat → Nat := reG (if md = 1 then gm n z G (cuR n a) else G) (rot a (n - 1))
def cuZ (n : Nat) (z : Nat → Nat) (a : Nat) : Nat → Nat := reZ z (rot a (n - 1))
def adG (n : Nat) (G H : Nat → Nat → Nat) : Nat → Nat → Nat := fun r => if r / 4 = n then H (r % 4) else G r
def puG (n : Nat) (z : Nat → Nat) (G : Nat → Nat → Nat) (H : Nat → Nat → Nat) (a md : Nat) : Nat → Nat → Nat := reG (adG n (if md = 1 then gm n z G (puR n a) else G) H) (rot n a)
def puZ (n : Nat) (z : Nat → Nat) (w a : Nat) : Nat → Nat := reZ (zu z n w) (rot n a)
theorem mvR_10 {a b : Nat} (ha : a < 8) (hb : b < 8) (k : Nat) (hk : k < 10) : mvR a b k < 10 := by
  unfold mvR
  split
  · omega
  · split
    · omega
    · split <;> omega
theorem cuR_10 (n a k : Nat) (hk : k < 10) : cuR n a k < 10 := by
  unfold cuR
  split <;> omega
theorem puR_10 {n : Nat} (hn : n ≤ 8) (a k : Nat) (hk : k < 10) : puR n a k < 10 := by
  unfold puR
  split <;> omega
theorem mvA (ha : aP n z G) {a b : Nat} (hA : a < n) (hB : b < n) (md : Nat) : aP n (mvZ z a b) (mvG n z G a b md) := by
  have h8 := ha.1
  unfold mvZ mvG
  refine re_a ?_ (fun j hj => rot_lt hA hB hj)
  split
  · exact gm_v ha (mvR_10 (by omega) (by omega))
  · exact ha
theorem cuA (ha : aP n z G) {a : Nat} (hA : a < n) (md : Nat) : aP (n - 1) (cuZ n z a) (cuG n z G a md) := by
  have h8 := ha.1
  have h : aP n (cuZ n z a) (cuG n z G a md) := by
    unfold cuZ cuG
    refine re_a ?_ (fun j hj => rot_lt hA (by omega) hj)
    split
    · exact gm_v ha (cuR_10 n a)
    · exact ha
  exact ⟨by omega, fun k hk => h.2 k (by omega)⟩
theorem adA (ha : aP n z G) (h8 : n < 8) {w : Nat} {H : Nat → Nat → Nat} (hw : 1 ≤ w ∧ w ≤ 4) (hH : ∀ j, j < w → vF (H j)) : aP (n + 1) (zu z n w) (adG n G H) := by
  refine ⟨by omega, fun k hk => ?_⟩
  by_cases q : k = n
  · subst q
    rw [zu_s]
    refine ⟨hw.1, hw.2, fun j hj => ?_⟩
    unfold adG
    rw [if_pos (by omega), show (4 * k + j) % 4 = j by omega]
    exact hH j hj
  · rw [zu_n _ q]
    have h4 := (ha.2 k (by omega)).2.1
    refine ⟨(ha.2 k (by omega)).1, h4, fun j hj => ?_⟩
    unfold adG
    rw [if_neg (by omega)]
    exact (ha.2 k (by omega)).2.2 j hj
theorem puA (ha : aP n z G) (h8 : n < 8) {w a : Nat} {H : Nat → Nat → Nat} (hw : 1 ≤ w ∧ w ≤ 4) (hH : ∀ j, j < w → vF (H j)) (hA : a ≤ n) (md : Nat) : aP (n + 1) (puZ n z w a) (puG n z G H a md) := by
  unfold puZ puG
  refine re_a ?_ (fun j hj => rot_lt (by omega) (by omega) hj)
  split
  · exact adA (gm_v ha (puR_10 (by omega) a)) h8 hw hH
  · exact adA ha h8 hw hH
theorem x_hasNote {x : Int32} (hn : n ≤ 8) : (0 ≤ x.toInt ∧ x.toInt < n → f_X1_hasNote (nI n) x = some 1) ∧ (¬ (0 ≤ x.toInt ∧ x.toInt < n) → f_X1_hasNote (nI n) x = some 0) := by
  unfold f_X1_hasNote
  constructor
  · intro w
    obtain ⟨k, hk, rfl⟩ := i_of w.1 w.2
    rw [if_neg (nI_pos (by omega)), if_neg (nI_ge hk (by omega))]
  · intro w
    by_cases q : x < 0
    · rw [if_pos q]
    · rw [if_neg q, if_pos]
      rw [i_lt, Int32.toInt_zero] at q
      rw [i_le, nI_toInt (by omega)]
      omega
theorem nI_m9 {k : Nat} (hk : k < 2 ^ 31) : ¬ nI k = (-9 : Int32) := n_m9 hk
theorem x_shift (ha : aP n z G) (hc : cP n z G (nI n) sz ci) (hN : 2000 ≤ N) {a b md : Nat} (hA : a < n) (hB : b < n) (hmd : md < 2) :
    ∃ ci' sz', f_X1_shiftNote N (nI n) ver ci sz (nI a) (nI b) (nI md) = some (ver + 1, ci', sz') ∧ cP n (mvZ z a b) (mvG n z G a b md) (nI n) sz' ci' := by
  have h8 := ha.1
  have hn1 : f_X1_hasNote (nI n) (nI a) = some 1 := (x_hasNote h8).1 (by rw [nI_toInt (by omega)]; omega)
  have hn2 : f_X1_hasNote (nI n) (nI b) = some 1 := (x_hasNote h8).1 (by rw [nI_toInt (by omega)]; omega)
  unfold f_X1_shiftNote mvZ mvG
  rw [hn1, e_b1, if_neg (by decide), hn2, e_b1, if_pos (by decide), e_nm]
  by_cases q : md = 1
  · subst q
    rw [if_neg (show ¬ ¬ nI 1 = 1 from fun k => k rfl), if_pos rfl]
    by_cases q1 : b ≤ a
    · rw [if_pos (nI_le q1 (by omega))]
      unfold j_X1_shiftNote_48
      rw [if_neg (show ¬ ¬ nI 1 = 1 from fun k => k rfl)]
      by_cases q2 : a ≤ b
      · have e : a = b := by omega
        subst e
        obtain ⟨c2, s2, e1, e2⟩ := x_rotate ha hc hN hA hB
        refine ⟨c2, s2, by rw [if_pos (nI_le (Nat.le_refl _) (by omega)), e1, e_b2], cP_cong e2 (fun k hk => ⟨rfl, fun j hj => ?_⟩)⟩
        have hz : z (rot a a k) ≤ 4 := (ha.2 _ (by rw [rot_id]; exact hk)).2.1
        have hj : j < z (rot a a k) := hj
        rw [reG_at _ _ (by omega), reG_at _ _ (by omega), rot_id]
        unfold gm
        split
        · funext i
          unfold wn
          split
          · rename_i e
            subst e
            unfold mvR
            split
            · rename_i e; exact e
            · rw [if_neg (by omega), if_neg (by omega)]
          · rfl
        · rfl
      · obtain ⟨c1, e1, e2⟩ := x_mend ha hc hN (p1 := nI b) (p2 := nI a - 1) (p3 := 1) (p4 := nI a) (p5 := nI b) (ρ := mvR a b) (mvR_10 (by omega) (by omega))
          (fun k hk w => by
            have e := (nI_eq (by omega) (by omega)).mp w
            unfold mvR; rw [if_pos e])
          (fun k hk w1 w2 => by
            have e : ¬ k = a := fun e => w1 (by rw [e])
            rw [n_m1 (by omega), nI_ltI (by omega) (by omega), nI_ltI (by omega) (by omega)] at w2
            unfold mvR; rw [if_neg e, if_neg (by omega), if_neg (by omega)])
          (fun k hk w1 w2 w3 => by
            have e : ¬ k = a := fun e => w1 (by rw [e])
            rw [nI_ltI (by omega) (by omega)] at w2
            rw [n_m1 (by omega), nI_ltI (by omega) (by omega)] at w3
            unfold mvR; rw [if_neg e, if_neg (by omega), if_pos (by omega), nI_1])
        obtain ⟨c2, s2, e3, e4⟩ := x_rotate (gm_v ha (mvR_10 (by omega) (by omega))) e2 hN hA hB
        exact ⟨c2, s2, by rw [if_neg (nI_ge (by omega) (by omega)), e1, e_b1, e3, e_b2], e4⟩
    · rw [if_neg (nI_ge (by omega) (by omega))]
      obtain ⟨c1, e1, e2⟩ := x_mend ha hc hN (p1 := nI a + 1) (p2 := nI b) (p3 := -1) (p4 := nI a) (p5 := nI b) (ρ := mvR a b) (mvR_10 (by omega) (by omega))
        (fun k hk w => by
          have e := (nI_eq (by omega) (by omega)).mp w
          unfold mvR; rw [if_pos e])
        (fun k hk w1 w2 => by
          have e : ¬ k = a := fun e => w1 (by rw [e])
          rw [nI_1, nI_ltI (by omega) (by omega), nI_ltI (by omega) (by omega)] at w2
          unfold mvR; rw [if_neg e, if_neg (by omega), if_neg (by omega)])
        (fun k hk w1 w2 w3 => by
          have e : ¬ k = a := fun e => w1 (by rw [e])
          rw [nI_1, nI_ltI (by omega) (by omega)] at w2
          rw [nI_ltI (by omega) (by omega)] at w3
          unfold mvR; rw [if_neg e, if_pos (by omega)]
          obtain ⟨m, rfl⟩ : ∃ m, k = m + 1 := ⟨k - 1, by omega⟩
          rw [pk_m1]; rfl)
      obtain ⟨c2, s2, e3, e4⟩ := x_rotate (gm_v ha (mvR_10 (by omega) (by omega))) e2 hN hA hB
      refine ⟨c2, s2, ?_, e4⟩
      unfold j_X1_shiftNote_48
      rw [e1, e_b1, if_neg (show ¬ ¬ nI 1 = 1 from fun k => k rfl), if_pos (nI_le (by omega) (by omega)), e3, e_b2]
  · have e0 : md = 0 := by omega
    subst e0
    obtain ⟨c2, s2, e1, e2⟩ := x_rotate ha hc hN hA hB
    refine ⟨c2, s2, ?_, by rw [if_neg q]; exact e2⟩
    unfold j_X1_shiftNote_48
    rw [if_pos (by decide), if_pos (by decide), e1, e_b2]
theorem x_drop (ha : aP n z G) (hc : cP n z G (nI n) sz ci) (hN : 2000 ≤ N) {a md : Nat} (hA : a < n) (hmd : md < 2) :
    ∃ ci' sz', f_X1_dropNote N (nI n) ver ci sz (nI a) (nI md) = some (nI (n - 1), ver + 1, ci', sz') ∧ cP (n - 1) (cuZ n z a) (cuG n z G a md) (nI (n - 1)) sz' ci' := by
  have h8 := ha.1
  have hn1 : f_X1_hasNote (nI n) (nI a) = some 1 := (x_hasNote h8).1 (by rw [nI_toInt (by omega)]; omega)
  have fin : ∀ {G' : Nat → Nat → Nat} {ci1 : Nat → Int64}, aP n z G' → cP n z G' (nI n) sz ci1 → ∃ ci' sz', j_X1_dropNote_42 N (nI a) (nI n) (ver + 1) ci1 sz = some (nI (n - 1), ver + 1, ci', sz') ∧ cP (n - 1) (reZ z (rot a (n - 1))) (reG G' (rot a (n - 1))) (nI (n - 1)) sz' ci' := by
    intro G' ci1 hA' hc'
    obtain ⟨c2, s2, e1, e2⟩ := x_rotate hA' hc' hN hA (b := n - 1) (by omega)
    refine ⟨c2, s2, ?_, rfl, fun k hk => e2.2 k (by omega)⟩
    unfold j_X1_dropNote_42
    rw [n_m1 (by omega), e1, e_b2, e_nm]
  unfold f_X1_dropNote cuZ cuG
  rw [hn1, e_b1, if_pos (by decide), e_nm]
  by_cases q : md = 1
  · subst q
    obtain ⟨c1, e1, e2⟩ := x_mend ha hc hN (p1 := nI a + 1) (p2 := nI n - 1) (p3 := -1) (p4 := -9) (p5 := -9) (ρ := cuR n a) (cuR_10 n a)
      (fun k hk w => absurd w (n_m9 (by omega)))
      (fun k hk _ w2 => by
        rw [nI_1, n_m1 (by omega), nI_ltI (by omega) (by omega), nI_ltI (by omega) (by omega)] at w2
        unfold cuR; rw [if_neg (by omega)])
      (fun k hk _ w2 w3 => by
        rw [nI_1, nI_ltI (by omega) (by omega)] at w2
        rw [n_m1 (by omega), nI_ltI (by omega) (by omega)] at w3
        unfold cuR; rw [if_pos (by omega)]
        obtain ⟨m, rfl⟩ : ∃ m, k = m + 1 := ⟨k - 1, by omega⟩
        rw [pk_m1]; rfl)
    rw [if_neg (show ¬ ¬ nI 1 = 1 from fun k => k rfl), if_pos rfl, e1, e_b1]
    exact fin (gm_v ha (cuR_10 n a)) e2
  · have e0 : md = 0 := by omega
    subst e0
    rw [if_pos (by decide), if_neg q]
    exact fin ha hc
theorem cP_ad (ha : aP n z G) (hc : cP n z G (nI n) sz ci) (h8 : n < 8) {w : Nat} (hw : w ≤ 4) {H : Nat → Nat → Nat} {c2 : Nat → Int64} (hH : ∀ j, j < w → c2 j = lN (en (H j))) : cP (n + 1) (zu z n w) (adG n G H) (nI (n + 1)) (upd sz n (nI w)) (va_cpy c2 ci 0 (4 * n + 0) 4) := by
  refine ⟨rfl, fun k hk => ?_⟩
  unfold adG
  by_cases q : k = n
  · subst q
    rw [zu_s, upd_s]
    refine ⟨rfl, fun j hj => ?_⟩
    rw [pk_cpy_in (by omega) (by omega), if_pos (by omega), show (4 * k + j) % 4 = j by omega, show 0 + (4 * k + j - (4 * k + 0)) = j by omega]
    exact hH j hj
  · have h4 := (ha.2 k (by omega)).2.1
    rw [zu_n _ q, upd_n _ _ q]
    refine ⟨(hc.2 k (by omega)).1, fun j hj => ?_⟩
    rw [pk_cpy_out (by omega), if_neg (by omega)]
    exact (hc.2 k (by omega)).2 j hj
theorem x_ins (ha : aP n z G) (hc : cP n z G (nI n) sz ci) (hN : 2000 ≤ N) (h8 : n < 8) {a md w : Nat} (hA : a ≤ n) (hmd : md < 2) {H : Nat → Nat → Nat} (hw : 1 ≤ w ∧ w ≤ 4) (hH : ∀ j, j < w → vF (H j)) {c2 : Nat → Int64} {s2 : Nat → Int32} (hs2 : s2 0 = nI w) (hc2 : ∀ j, j < w → c2 j = lN (en (H j))) :
    ∃ ci' sz', f_X1_insertNote N (nI n) ver ci sz c2 s2 (nI a) (nI md) = some (nI (n + 1), ver + 1, ci', sz') ∧ cP (n + 1) (puZ n z w a) (puG n z G H a md) (nI (n + 1)) sz' ci' := by
  have fin : ∀ {G' : Nat → Nat → Nat} {ci1 : Nat → Int64}, aP n z G' → cP n z G' (nI n) sz ci1 → ∃ ci' sz', j_X1_insertNote_53 N c2 s2 (nI a) (nI n) (ver + 1) ci1 sz = some (nI (n + 1), ver + 1, ci', sz') ∧ cP (n + 1) (reZ (zu z n w) (rot n a)) (reG (adG n G' H) (rot n a)) (nI (n + 1)) sz' ci' := by
    intro G' ci1 hA' hc'
    obtain ⟨c3, s3, e1, e2⟩ := x_rotate (adA hA' h8 hw hH) (cP_ad hA' hc' h8 hw.2 hc2) hN (a := n) (b := a) (by omega) (by omega)
    refine ⟨c3, s3, ?_, e2⟩
    unfold j_X1_insertNote_53
    rw [show ∀ k, pn_rd (β := Int32 × Int32 × (Nat → Int64) × (Nat → Int32)) 8 s2 0 k = k (s2 0) from fun k => e_rd (k := 0) s2 k (by omega) (by omega), hs2, e_wrI _ _ _ h8 (by omega), show f_X1_slotOf (nI n) 0 = _ from x_slot n 0, e_b1,
      show ∀ k, pn_cp (β := Int32 × Int32 × (Nat → Int64) × (Nat → Int32)) 32 c2 0 32 ci1 (nI (4 * n + 0)) 4 k = k (va_cpy c2 ci1 0 (4 * n + 0) 4) from fun k => e_cp (n0 := 32) (n1 := 32) (sp := 0) (dp := 4 * n + 0) (n := 4) c2 ci1 k (by omega) (by omega) (by omega) (by omega),
      nI_1, e_nm, show nI (n + 1) - 1 = nI n from nI_pred n, e1, e_b2]
  unfold f_X1_insertNote puZ puG
  rw [if_neg (show ¬ (8 : Int32) ≤ nI n from nI_ge (b := 8) h8 (by omega)), if_neg (nI_pos (by omega)), if_pos (nI_le hA (by omega)), e_nm]
  by_cases q : md = 1
  · subst q
    obtain ⟨c1, e1, e2⟩ := x_mend ha hc hN (p1 := nI a) (p2 := nI n - 1) (p3 := 1) (p4 := -9) (p5 := -9) (ρ := puR n a) (puR_10 (by omega) a)
      (fun k hk w => absurd w (n_m9 (by omega)))
      (fun k hk _ w2 => by
        rw [i_lt, i_lt, show (1 : Int32) = nI 1 from rfl, pk_sub_toInt (by omega) (by omega), nI_toInt (by omega), nI_toInt (by omega)] at w2
        unfold puR; rw [if_neg (by omega)])
      (fun k hk _ w2 w3 => by
        rw [i_lt, nI_toInt (by omega), nI_toInt (by omega)] at w2
        rw [i_lt, show (1 : Int32) = nI 1 from rfl, pk_sub_toInt (by omega) (by omega), nI_toInt (by omega)] at w3
        unfold puR; rw [if_pos (by omega), nI_1])
    rw [if_neg (show ¬ ¬ nI 1 = 1 from fun k => k rfl), if_pos rfl, e1, e_b1]
    exact fin (gm_v ha (puR_10 (by omega) a)) e2
  · have e0 : md = 0 := by omega
    subst e0
    rw [if_pos (by decide), if_neg q]
    exact fin ha hc
end
