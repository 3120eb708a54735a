/-! what the class keeps of its study, by version -/
def full (n : Nat) : Nat := 255 % 2 ^ n
theorem full_lt (n : Nat) : full n < 256 := Nat.lt_of_le_of_lt (Nat.mod_le _ _) (by decide)
def dT (n : Nat) (z : Nat → Nat) (G : Nat → Nat → Nat) (L : Nat) (pr cs0 ct av dd : Int32) (ca fs fb mb nb ra : Nat → Int32) : Prop := dS n z G L (TC n z G L).1 (TC n z G L).2.1 (TC n z G L).2.2 pr cs0 ct av dd ca fs fb mb nb ra
def dK (n : Nat) (z : Nat → Nat) (G : Nat → Nat → Nat) (ver lv sv pr fl cs0 ct av dd : Int32) (ca fs fb lk mb nb ra : Nat → Int32) : Prop := (lv = ver → dL n z G fl lk) ∧ (sv = ver → dT n z G (full n) pr cs0 ct av dd ca fs fb mb nb ra)
theorem x_partC {n : Nat} {z : Nat → Nat} {G : Nat → Nat → Nat} (ha : aP n z G) {sz : Nat → Int32} {ci : Nat → Int64} (hc : cP n z G (nI n) sz ci) {P N : Nat} (hP : P < 256) (hN : 2000 ≤ N) {lv ver : Int32} {f : Int32} {lk : Nat → Int32} (hl : lv = ver → dL n z G f lk)
    (sv pr c0 ct0 av0 dd0 : Int32) (ca fs fb mb nb ra : Nat → Int32) :
    ∃ f2 cs2 ct2 av2 dd2 ca2 fs2 fb2 lk2 mb2 nb2 ra2, f_X4_studyPart N lv sv pr f c0 ct0 av0 dd0 ca fs fb lk mb nb (nI n) ver ci sz ra (nI P) = some (ver, -1, nI (P % 2 ^ n), f2, cs2, ct2, av2, dd2, ca2, fs2, fb2, lk2, mb2, nb2, ra2) ∧ dT n z G (P % 2 ^ n) (nI (P % 2 ^ n)) cs2 ct2 av2 dd2 ca2 fs2 fb2 mb2 nb2 ra2 ∧ dL n z G f2 lk2 := by
  obtain ⟨t1, t2, t3⟩ := TC_ok ha (L := P % 2 ^ n) (Nat.lt_of_le_of_lt (Nat.mod_le _ _) (by omega))
  exact x_part ha hc hP hN t1 t2 t3 hl sv pr c0 ct0 av0 dd0 ca fs fb mb nb ra
theorem x_study {n : Nat} {z : Nat → Nat} {G : Nat → Nat → Nat} (ha : aP n z G) {sz : Nat → Int32} {ci : Nat → Int64} (hc : cP n z G (nI n) sz ci) {N : Nat} (hN : 2000 ≤ N) {ver lv sv pr fl c0 ct av dd : Int32} {ca fs fb lk mb nb ra : Nat → Int32} (h : dK n z G ver lv sv pr fl c0 ct av dd ca fs fb lk mb nb ra) :
    ∃ lv2 pr2 fl2 cs2 ct2 av2 dd2 ca2 fs2 fb2 lk2 mb2 nb2 ra2, f_X4_study N lv sv pr fl c0 ct av dd ca fs fb lk mb nb (nI n) ver ci sz ra = some (lv2, ver, pr2, fl2, cs2, ct2, av2, dd2, ca2, fs2, fb2, lk2, mb2, nb2, ra2) ∧ (lv2 = lv ∨ lv2 = ver) ∧ dT n z G (full n) pr2 cs2 ct2 av2 dd2 ca2 fs2 fb2 mb2 nb2 ra2 ∧ dK n z G ver lv2 ver pr2 fl2 cs2 ct2 av2 dd2 ca2 fs2 fb2 lk2 mb2 nb2 ra2 := by
  unfold f_X4_study
  rw [show f_X1_version ver = some ver from rfl, e_b1]
  by_cases e : sv = ver
  · rw [if_neg (fun w => w e)]
    exact ⟨lv, pr, fl, c0, ct, av, dd, ca, fs, fb, lk, mb, nb, ra, by rw [e], Or.inl rfl, h.2 e, h.1, fun _ => h.2 e⟩
  · rw [if_pos e]
    obtain ⟨f2, cs2, ct2, av2, dd2, ca2, fs2, fb2, lk2, mb2, nb2, ra2, a1, a2, a3⟩ := x_partC ha hc (P := 255) (by omega) hN h.1 sv pr c0 ct av dd ca fs fb mb nb ra
    refine ⟨ver, nI (255 % 2 ^ n), f2, cs2, ct2, av2, dd2, ca2, fs2, fb2, lk2, mb2, nb2, ra2, ?_, Or.inr rfl, a2, fun _ => a3, fun _ => a2⟩
    rw [show f_X4_studyPart N lv sv pr fl c0 ct av dd ca fs fb lk mb nb (nI n) ver ci sz ra (255 : Int32) = _ from a1, e_b15, e_b1]
