/-! a paper: n notes, z k references in note k, G r the numbers of the reference in slot r = 4 k + j; as the class and as the reference hold it -/
def aP (n : Nat) (z : Nat → Nat) (G : Nat → Nat → Nat) : Prop := n ≤ 8 ∧ ∀ k, k < n → 1 ≤ z k ∧ z k ≤ 4 ∧ ∀ j, j < z k → vF (G (4 * k + j))
def cP (n : Nat) (z : Nat → Nat) (G : Nat → Nat → Nat) (nt : Int32) (sz : Nat → Int32) (ci : Nat → Int64) : Prop := nt = nI n ∧ ∀ k, k < n → sz k = nI (z k) ∧ ∀ j, j < z k → ci (4 * k + j) = lN (en (G (4 * k + j)))
def mP (n : Nat) (z : Nat → Nat) (G : Nat → Nat → Nat) (p : Nat → Int32) : Prop := p 0 = nI n ∧ ∀ k, k < n → p (1 + k) = nI (z k) ∧ ∀ j, j < z k → ∀ i, i < 8 → p (9 + 8 * (4 * k + j) + i) = nI (G (4 * k + j) i)
/-- while it is read: the last note may be empty -/
def aQ (n : Nat) (z : Nat → Nat) (G : Nat → Nat → Nat) : Prop := 1 ≤ n ∧ n ≤ 8 ∧ (∀ k, k < n → z k ≤ 4 ∧ ∀ j, j < z k → vF (G (4 * k + j))) ∧ ∀ k, k + 1 < n → 1 ≤ z k
def zu (z : Nat → Nat) (k v : Nat) : Nat → Nat := fun j => if j = k then v else z j
def gu (G : Nat → Nat → Nat) (r : Nat) (F : Nat → Nat) : Nat → Nat → Nat := fun j => if j = r then F else G j
theorem zu_s (z : Nat → Nat) (k v : Nat) : zu z k v k = v := if_pos rfl
theorem zu_n (z : Nat → Nat) {k v j : Nat} (h : j ≠ k) : zu z k v j = z j := if_neg h
theorem gu_s (G : Nat → Nat → Nat) (r : Nat) (F : Nat → Nat) : gu G r F r = F := if_pos rfl
theorem gu_n (G : Nat → Nat → Nat) {r j : Nat} (F : Nat → Nat) (h : j ≠ r) : gu G r F j = G j := if_neg h
theorem upd_s (f : Nat → Int32) (k : Nat) (x : Int32) : upd f k x k = x := if_pos rfl
theorem upd_n (f : Nat → Int32) {k j : Nat} (x : Int32) (h : j ≠ k) : upd f k x j = f j := if_neg h
theorem updL_s (f : Nat → Int64) (k : Nat) (x : Int64) : vp_updL f k x k = x := if_pos rfl
theorem updL_n (f : Nat → Int64) {k j : Nat} (x : Int64) (h : j ≠ k) : vp_updL f k x j = f j := if_neg h
theorem aQ_aP {n : Nat} {z : Nat → Nat} {G : Nat → Nat → Nat} (h : aQ n z G) (h1 : 1 ≤ z (n - 1)) : aP n z G := by
  refine ⟨h.2.1, fun k hk => ⟨?_, (h.2.2.1 k hk).1, (h.2.2.1 k hk).2⟩⟩
  by_cases q : k + 1 < n
  · exact h.2.2.2 k q
  · rw [show k = n - 1 by omega]; exact h1
/-! one more reference -/
theorem aQ_add {n s : Nat} {z : Nat → Nat} {G : Nat → Nat → Nat} {F : Nat → Nat} (h : aQ n z G) (hs : z (n - 1) = s) (h4 : s < 4) (hF : vF F) : aQ n (zu z (n - 1) (s + 1)) (gu G (4 * (n - 1) + s) F) := by
  obtain ⟨h1, h8, ha, hb⟩ := h
  refine ⟨h1, h8, fun k hk => ?_, fun k hk => ?_⟩
  · by_cases q : k = n - 1
    · subst q
      rw [zu_s]
      refine ⟨by omega, fun j hj => ?_⟩
      by_cases e : j = s
      · subst e; rw [gu_s]; exact hF
      · rw [gu_n _ _ (by omega)]; exact (ha _ hk).2 j (by omega)
    · rw [zu_n _ q]
      refine ⟨(ha k hk).1, fun j hj => ?_⟩
      have := (ha k hk).1
      rw [gu_n _ _ (by omega)]; exact (ha k hk).2 j hj
  · rw [zu_n _ (by omega)]; exact hb k hk
theorem cP_add {n s : Nat} {z : Nat → Nat} {G : Nat → Nat → Nat} {F : Nat → Nat} {sz : Nat → Int32} {ci : Nat → Int64} (ha : aQ n z G) (h : cP n z G (nI n) sz ci) (hs : z (n - 1) = s) (h4 : s < 4) : cP n (zu z (n - 1) (s + 1)) (gu G (4 * (n - 1) + s) F) (nI n) (upd sz (n - 1) (nI (s + 1))) (vp_updL ci (4 * (n - 1) + s) (lN (en F))) := by
  refine ⟨rfl, fun k hk => ?_⟩
  have hz := (ha.2.2.1 k hk).1
  by_cases q : k = n - 1
  · subst q
    rw [zu_s, upd_s]
    refine ⟨rfl, fun j hj => ?_⟩
    by_cases e : j = s
    · subst e; rw [gu_s, updL_s]
    · rw [gu_n _ _ (by omega), updL_n _ _ (by omega)]; exact (h.2 _ hk).2 j (by omega)
  · rw [zu_n _ q, upd_n _ _ q]
    refine ⟨(h.2 k hk).1, fun j hj => ?_⟩
    rw [gu_n _ _ (by omega), updL_n _ _ (by omega)]; exact (h.2 k hk).2 j hj
theorem mP_add {n s : Nat} {z : Nat → Nat} {G : Nat → Nat → Nat} {F : Nat → Nat} {p g : Nat → Int32} (ha : aQ n z G) (h : mP n z G p) (hs : z (n - 1) = s) (h4 : s < 4) (hg : rec8 g p (9 + 8 * (4 * (n - 1) + s)) F) : mP n (zu z (n - 1) (s + 1)) (gu G (4 * (n - 1) + s) F) (upd g (1 + (n - 1)) (nI (s + 1))) := by
  have h1 := ha.1
  have h8 := ha.2.1
  refine ⟨?_, fun k hk => ?_⟩
  · rw [upd_n _ _ (by omega), hg.2 0 (by omega)]; exact h.1
  · have hz := (ha.2.2.1 k hk).1
    by_cases q : k = n - 1
    · subst q
      rw [zu_s, upd_s]
      refine ⟨rfl, fun j hj i hi => ?_⟩
      rw [upd_n _ _ (by omega)]
      by_cases e : j = s
      · subst e; rw [gu_s]; exact hg.1 i hi
      · rw [gu_n _ _ (by omega), hg.2 _ (by omega)]; exact (h.2 _ hk).2 j (by omega) i hi
    · rw [zu_n _ q, upd_n _ _ (by omega), hg.2 _ (by omega)]
      refine ⟨(h.2 k hk).1, fun j hj i hi => ?_⟩
      rw [upd_n _ _ (by omega), gu_n _ _ (by omega), hg.2 _ (by omega)]; exact (h.2 k hk).2 j hj i hi
/-! one more note -/
theorem aQ_open {n : Nat} {z : Nat → Nat} {G : Nat → Nat → Nat} (h : aQ n z G) (h1 : 1 ≤ z (n - 1)) (h8 : n < 8) : aQ (n + 1) (zu z n 0) G := by
  have hA := aQ_aP h h1
  refine ⟨by omega, by omega, fun k hk => ?_, fun k hk => ?_⟩
  · by_cases q : k = n
    · subst q; rw [zu_s]; exact ⟨by omega, fun j hj => by omega⟩
    · rw [zu_n _ q]; exact h.2.2.1 k (by omega)
  · rw [zu_n _ (by omega)]; exact (hA.2 k (by omega)).1
theorem cP_open {n : Nat} {z : Nat → Nat} {G : Nat → Nat → Nat} {sz : Nat → Int32} {ci : Nat → Int64} (h : cP n z G (nI n) sz ci) : cP (n + 1) (zu z n 0) G (nI (n + 1)) (upd sz n 0) ci := by
  refine ⟨rfl, fun k hk => ?_⟩
  by_cases q : k = n
  · subst q; rw [zu_s, upd_s]; exact ⟨rfl, fun j hj => by omega⟩
  · rw [zu_n _ q, upd_n _ _ q]; exact h.2 k (by omega)
theorem mP_open {n : Nat} {z : Nat → Nat} {G : Nat → Nat → Nat} {p : Nat → Int32} (h8 : n < 8) (h : mP n z G p) : mP (n + 1) (zu z n 0) G (upd (upd p (1 + n) 0) 0 (nI (n + 1))) := by
  refine ⟨upd_s _ _ _, fun k hk => ?_⟩
  by_cases q : k = n
  · subst q; rw [zu_s, upd_n _ _ (by omega), upd_s]; exact ⟨rfl, fun j hj => by omega⟩
  · rw [zu_n _ q, upd_n _ _ (by omega), upd_n _ _ (by omega)]
    refine ⟨(h.2 k (by omega)).1, fun j hj i hi => ?_⟩
    rw [upd_n _ _ (by omega), upd_n _ _ (by omega)]; exact (h.2 k (by omega)).2 j hj i hi
/-! the class's steps -/
theorem x_slot (a b : Nat) : f_X1_slotOf (nI a) (nI b) = some (nI (4 * a + b)) := by
  unfold f_X1_slotOf
  rw [show (4 : Int32) = nI 4 from rfl, pk_mul, nI_add]
theorem x_rep {ver : Int32} {ci : Nat → Int64} {r : Nat} (hr : r < 32) (c : Int64) : f_X1_replaceCite ver ci (nI r) c = some (ver + 1, vp_updL ci r c) := by
  unfold f_X1_replaceCite
  rw [if_neg (nI_pos (by omega)), show (32 : Int32) = nI 32 from rfl, if_pos (nI_lt hr (by omega)), e_nm, e_wrJ _ _ _ hr (by omega)]
theorem n_m1 {n : Nat} (h : 1 ≤ n) : nI n - 1 = nI (n - 1) := by rw [show (1 : Int32) = nI 1 from rfl, pk_sub h]
theorem x_add {n s : Nat} (h1 : 1 ≤ n) (h8 : n ≤ 8) {ver : Int32} {ci : Nat → Int64} {sz : Nat → Int32} (hs : sz (n - 1) = nI s) (h4 : s < 4) (c : Int64) : f_X1_addCite (nI n) ver ci sz c = some (ver + 1, vp_updL ci (4 * (n - 1) + s) c, upd sz (n - 1) (nI (s + 1))) := by
  unfold f_X1_addCite
  rw [n_m1 h1, e_nm, if_neg (nI_pos (by omega)), show (8 : Int32) = nI 8 from rfl, if_neg (nI_ge (by omega) (by omega)), e_rd _ _ (by omega) (by omega), hs, show (4 : Int32) = nI 4 from rfl, if_pos (nI_lt h4 (by omega)), e_rd _ _ (by omega) (by omega), hs, nI_1, e_wrI _ _ _ (by omega) (by omega),
    e_rd _ _ (by omega) (by omega), upd_s, n_m1 (by omega), show s + 1 - 1 = s by omega, x_slot, e_b1, x_rep (by omega), e_b2]
theorem x_open {n : Nat} (h8 : n < 8) {ver : Int32} {sz : Nat → Int32} : f_X1_openNote (nI n) ver sz = some (nI (n + 1), ver + 1, upd sz n 0) := by
  unfold f_X1_openNote
  rw [show (8 : Int32) = nI 8 from rfl, if_pos (nI_lt h8 (by omega)), e_nm, e_wrI _ _ _ h8 (by omega), e_nm, nI_1]
theorem x_size {n k : Nat} {sz : Nat → Int32} (hk : k < n) (hn : n ≤ 8) : f_X1_size (nI n) sz (nI k) = some (sz k) := by
  unfold f_X1_size
  rw [if_neg (nI_pos (by omega)), if_neg (nI_ge hk (by omega)), show (8 : Int32) = nI 8 from rfl, if_neg (nI_ge (by omega) (by omega)), e_rd _ _ (by omega) (by omega)]
