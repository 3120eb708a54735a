/-! the state of a pin -/
theorem nn_sub {a b : Nat} (h : b ≤ a) : nI a - nI b = nI (a - b) := by
  have e := nI_add (a - b) b
  rw [Nat.sub_add_cancel h] at e
  rw [← e]
  exact Int32.add_sub_cancel _ _
theorem m_deadC {n : Nat} {z : Nat → Nat} {G : Nat → Nat → Nat} {p : Nat → Int32} (ha : aP n z G) (hm : mP n z G p) {N : Nat} (hN : 2000 ≤ N) (c0 l0 : Int32) (cf0 fi0 lb0 rn0 : Nat → Int32) :
    ∃ (c1 l1 : Int32) (cf fi lb rn : Nat → Int32), f_X7_dead N c0 l0 cf0 fi0 lb0 rn0 p = some (nI (fb_ct (fun q => lf n z (full n) q && decide ((TC n z G (full n)).2.1 q = none)) 32), c1, l1, cf, fi, lb, rn) := by
  have hL : full n < 2 ^ 31 := by have := full_lt n; omega
  obtain ⟨c1, l1, cf, fi, lb, rn, a1, a2, a3⟩ := m_findAll ha hm hN c0 l0 cf0 fi0 lb0 rn0
  obtain ⟨t1, t2, t3⟩ := TC_ok ha hL
  refine ⟨c1, l1, cf, fi, lb, rn, ?_⟩
  unfold f_X7_dead
  rw [a1, e_b6, m_all ha hm, e_b1, m_refs ha hm hL hN, e_b1, m_many t3 (fun r hr => (a3 r hr).1) hN, e_b1, ← RS_alive t2, RS_both (F := (TC n z G (full n)).2.1), nn_sub (by omega), Nat.add_sub_cancel_left]
