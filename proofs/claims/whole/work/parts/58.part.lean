/-! the class's whole study of a part of a paper -/
theorem x_mask : ∀ n, n < 9 → ∀ P, P < 256 → nI P &&& (((1 : Int32) <<< (nI n &&& 31)) - (1 : Int32)) = nI (P % 2 ^ n) := by decide +kernel
theorem dR_zero {n : Nat} {z : Nat → Nat} {G : Nat → Nat → Nat} (ha : aP n z G) {L : Nat} {lab : Nat → Nat} (hlb : LB (sp n z G L) (mt G) lab) {F : Nat → Option Nat} {Rn : Nat → Nat} {c1 : Int32} {ca fs mb nb fb ra : Nat → Int32} (hdC : dC n z G L lab 32 c1 ca fs mb nb) (hfb : ∀ i, i < 8 → fb i = 0) :
    dR n z G L lab F Rn 0 0 0 0 0 ca fb ra := by
  refine ⟨fun q hq _ => by omega, fun b hb _ hs => hdC.2.2.1 b hb hs (Nat.lt_of_le_of_lt (hlb.1 b hb) hb), fun t c ht _ => ?_, fun c _ => ?_, rfl, rfl⟩
  · rw [hfb t ht, bt_0, if_neg (by omega)]
    by_cases e : t = 0
    · rw [if_pos e]; rfl
    · rw [if_neg e]; rfl
  · rw [bt_0]; simp
theorem dS_of {n : Nat} {z : Nat → Nat} {G : Nat → Nat → Nat} (ha : aP n z G) {L : Nat} {lab : Nat → Nat} {F : Nat → Option Nat} {Rn : Nat → Nat} {c1 ct av dd : Int32} {ca0 ca fs fb mb nb ra : Nat → Int32} (hdC : dC n z G L lab 32 c1 ca0 fs mb nb) (h : dR n z G L lab F Rn n 0 ct av dd ca fb ra) :
    dS n z G L lab F Rn (nI L) c1 ct av dd ca fs fb mb nb ra := by
  have h8 := ha.1
  obtain ⟨h1, h2, h3, h4, h5, h6⟩ := dR_end (8 - n) n (Nat.le_refl _) (by omega) h
  refine ⟨rfl, hdC.1, hdC.2.1, hdC.2.2.2, fun q hq hl => h1 q (by omega) hl, fun t c ht hc => ?_, fun c hc => ?_, h5, h6⟩
  · rw [h3 t c ht hc, if_pos ht]
  · rw [h4 c hc]
    by_cases e : c < fb_ct (fx n z G L lab) 32
    · have := (kth_ok e).1
      simp [e, show kth (fx n z G L lab) c < 4 * 8 + 0 from by omega]
    · simp [e]
/-- the links of a paper, as the class holds them -/
def dL (n : Nat) (z : Nat → Nat) (G : Nat → Nat → Nat) (f : Int32) (lk : Nat → Int32) : Prop := (∀ b, b < 32 → bt f b = fu n z G b) ∧ ∀ r s, r < 32 → s < 32 → bt (lk r) s = lkd n z G r s
theorem x_j23 {n : Nat} {z : Nat → Nat} {G : Nat → Nat → Nat} (ha : aP n z G) {sz : Nat → Int32} {ci : Nat → Int64} (hc : cP n z G (nI n) sz ci) {P N : Nat} (hP : P < 256) (hN : 2000 ≤ N) {lab : Nat → Nat} (hlb : LB (sp n z G (P % 2 ^ n)) (mt G) lab) {F : Nat → Option Nat} {Rn : Nat → Nat} (hRS : RS n z G (P % 2 ^ n) lab F Rn) (hF : ∀ q c, F q = some c → c < 32) {f : Int32} {lk : Nat → Int32} (hl : dL n z G f lk)
    (lv sv c0 : Int32) (ca fs fb mb nb ra : Nat → Int32) :
    ∃ cs2 ct2 av2 dd2 ca2 fs2 fb2 mb2 nb2 ra2, j_X4_studyPart_23 N (nI n) ci sz (nI P) lv sv f c0 ca fs fb lk mb nb ra = some (lv, sv, nI (P % 2 ^ n), f, cs2, ct2, av2, dd2, ca2, fs2, fb2, lk, mb2, nb2, ra2) ∧ dS n z G (P % 2 ^ n) lab F Rn (nI (P % 2 ^ n)) cs2 ct2 av2 dd2 ca2 fs2 fb2 mb2 nb2 ra2 := by
  have h8 := ha.1
  obtain ⟨c2, ca2, fs2, mb2, nb2, a1, a2⟩ := x_join ha hc hN hlb hl.1 hl.2 c0 ca fs mb nb
  obtain ⟨fb0, b1, b2⟩ := x_fill (n := 8) (N := N) (by omega) (by omega) fb 0
  obtain ⟨ct3, av3, dd3, ca3, fb3, ra3, d1, d2⟩ := x_sp71 ha hc hN hlb hRS hF a2 (dR_zero ha hlb (Rn := Rn) (F := F) (ra := ra) a2 b2)
  refine ⟨_, _, _, _, _, _, _, _, _, _, ?_, dS_of ha a2 d2⟩
  unfold j_X4_studyPart_23
  rw [show f_X1_notes (nI n) = some (nI n) from rfl, e_b1, e_nm, x_mask n (by omega) P hP, a1, e_b5, b1, e_b1, d1, e_b1, e_u6]
theorem x_part {n : Nat} {z : Nat → Nat} {G : Nat → Nat → Nat} (ha : aP n z G) {sz : Nat → Int32} {ci : Nat → Int64} (hc : cP n z G (nI n) sz ci) {P N : Nat} (hP : P < 256) (hN : 2000 ≤ N) {lab : Nat → Nat} (hlb : LB (sp n z G (P % 2 ^ n)) (mt G) lab) {F : Nat → Option Nat} {Rn : Nat → Nat} (hRS : RS n z G (P % 2 ^ n) lab F Rn) (hF : ∀ q c, F q = some c → c < 32) {lv ver : Int32} {f : Int32} {lk : Nat → Int32} (hl : lv = ver → dL n z G f lk)
    (sv pr c0 ct0 av0 dd0 : Int32) (ca fs fb mb nb ra : Nat → Int32) :
    ∃ f2 cs2 ct2 av2 dd2 ca2 fs2 fb2 lk2 mb2 nb2 ra2, f_X4_studyPart N lv sv pr f c0 ct0 av0 dd0 ca fs fb lk mb nb (nI n) ver ci sz ra (nI P) = some (ver, -1, nI (P % 2 ^ n), f2, cs2, ct2, av2, dd2, ca2, fs2, fb2, lk2, mb2, nb2, ra2) ∧ dS n z G (P % 2 ^ n) lab F Rn (nI (P % 2 ^ n)) cs2 ct2 av2 dd2 ca2 fs2 fb2 mb2 nb2 ra2 ∧ dL n z G f2 lk2 := by
  unfold f_X4_studyPart
  rw [show f_X1_version ver = some ver from rfl, e_b1]
  by_cases e : lv = ver
  · rw [if_pos e]
    obtain ⟨cs2, ct2, av2, dd2, ca2, fs2, fb2, mb2, nb2, ra2, a1, a2⟩ := x_j23 ha hc hP hN hlb hRS hF (hl e) lv (-1) c0 ca fs fb mb nb ra
    exact ⟨f, cs2, ct2, av2, dd2, ca2, fs2, fb2, lk, mb2, nb2, ra2, by rw [a1, e], a2, hl e⟩
  · rw [if_neg e]
    obtain ⟨f1, lk1, l1, l2, l3⟩ := x_link ha hc hN lv f ver lk
    obtain ⟨cs2, ct2, av2, dd2, ca2, fs2, fb2, mb2, nb2, ra2, a1, a2⟩ := x_j23 ha hc hP hN hlb hRS hF (f := f1) (lk := lk1) ⟨l2, l3⟩ ver (-1) c0 ca fs fb mb nb ra
    exact ⟨f1, cs2, ct2, av2, dd2, ca2, fs2, fb2, lk1, mb2, nb2, ra2, by rw [l1, e_b3, a1], a2, l2, l3⟩
