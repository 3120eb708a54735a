/-! what a reference finds -/
def oI (x : Option Nat) : Int32 := match x with
  | none => -9
  | some c => nI c
def uq (Q : Nat → Bool) : Nat → Int32
  | 0 => -9
  | m + 1 => if Q m = true then (if uq Q m = -9 then nI m else -10) else uq Q m
theorem uq_s (Q : Nat → Bool) (m : Nat) : uq Q (m + 1) = if Q m = true then (if uq Q m = -9 then nI m else -10) else uq Q m := rfl
theorem n_m10 {x : Nat} (hx : x < 2 ^ 31) : ¬ nI x = (-10 : Int32) := fun z => by
  rw [i_eq, nI_toInt hx, show ((-10 : Int32)).toInt = -10 from by decide] at z; omega
theorem uq_char (Q : Nat → Bool) : ∀ m, m < 2 ^ 31 → (fb_ct Q m = 0 ∧ uq Q m = -9) ∨ (∃ c, c < m ∧ fb_ct Q m = 1 ∧ Q c = true ∧ uq Q m = nI c) ∨ (2 ≤ fb_ct Q m ∧ uq Q m = -10)
  | 0, _ => Or.inl ⟨rfl, rfl⟩
  | m + 1, hm => by
    rw [fb_ct_succ]
    unfold uq
    cases hQ : Q m with
    | false =>
      simp only [Bool.false_eq_true, if_false, Nat.add_zero]
      rcases uq_char Q m (by omega) with h | ⟨c, h1, h2⟩ | h
      · exact Or.inl h
      · exact Or.inr (Or.inl ⟨c, by omega, h2⟩)
      · exact Or.inr (Or.inr h)
    | true =>
      simp only [if_true]
      rcases uq_char Q m (by omega) with h | ⟨c, h1, h2, h3, h4⟩ | h
      · rw [if_pos h.2]
        exact Or.inr (Or.inl ⟨m, by omega, by omega, hQ, rfl⟩)
      · rw [h4, if_neg (n_m9 (by omega))]
        exact Or.inr (Or.inr ⟨by omega, rfl⟩)
      · rw [h.2, if_neg (by decide)]
        exact Or.inr (Or.inr ⟨by omega, rfl⟩)
theorem uq_cong {Q Q' : Nat → Bool} : ∀ m, (∀ c, c < m → Q c = Q' c) → uq Q m = uq Q' m
  | 0, _ => rfl
  | m + 1, h => by
    unfold uq
    rw [uq_cong m (fun c hc => h c (by omega)), h m (by omega)]
def uqS (Q : Nat → Bool) (m : Nat) : Option Nat × Nat := if uq Q m = -9 then (none, 1) else if uq Q m = -10 then (none, 2) else (some (uq Q m).toNatClampNeg, 0)
/-- the last present note below m -/
def lastN (n L : Nat) : Nat → Option Nat
  | 0 => none
  | m + 1 => if (L.testBit m && decide (m < n)) = true then some m else lastN n L m
def pt (n : Nat) (z : Nat → Nat) (L r : Nat) : Option Nat := if 0 < r % 4 then some (r - 1) else match lastN n L (r / 4) with
  | none => none
  | some a => if z a = 1 then some (4 * a) else none
def fndU (n : Nat) (z : Nat → Nat) (L : Nat) (F : Nat → Option Nat) (a c : Nat) : Nat → Bool
  | 0 => false
  | i + 1 => fndU n z L F a c i || (lf n z L (4 * a + i) && decide (F (4 * a + i) = some c))
theorem fndU_s (n : Nat) (z : Nat → Nat) (L : Nat) (F : Nat → Option Nat) (a c i : Nat) : fndU n z L F a c (i + 1) = (fndU n z L F a c i || (lf n z L (4 * a + i) && decide (F (4 * a + i) = some c))) := rfl
def QS (G : Nat → Nat → Nat) (f : Nat → Bool) (r lt c : Nat) : Bool := decide (kth f c < r) && decide (G (kth f c) 1 = lt)
def QA (n : Nat) (z : Nat → Nat) (G : Nat → Nat → Nat) (L : Nat) (f : Nat → Bool) (F : Nat → Option Nat) (a lt c : Nat) : Bool := fndU n z L F a c 4 && decide (G (kth f c) 1 = lt)
def ahd (n L a r : Nat) : Bool := decide (a < r / 4) && (decide (a < n) && L.testBit a)
def tl (n : Nat) (z : Nat → Nat) (G : Nat → Nat → Nat) (L : Nat) (f : Nat → Bool) (F : Nat → Option Nat) (r kd lt fg : Nat) : Option Nat × Nat :=
  if kd = 2 then (match pt n z L r with
    | none => (none, 3)
    | some q => match F q with
      | none => (none, 4)
      | some c => (some c, 0))
  else if kd = 3 then (if ahd n L fg r = true then uqS (QA n z G L f F fg lt) (fb_ct f 32) else (none, 5))
  else uqS (QS G f r lt) (fb_ct f 32)
def stp (n : Nat) (z : Nat → Nat) (G : Nat → Nat → Nat) (L : Nat) (lab : Nat → Nat) (F : Nat → Option Nat) (r : Nat) : Option Nat × Nat :=
  if sp n z G L r = true then (some (cs n z G L lab r), 0) else if lf n z L r = true then tl n z G L (fx n z G L lab) F r (G r 0) (G r 5) (G r 6) else (none, 0)
/-- what all references find, and why not -/
def RS (n : Nat) (z : Nat → Nat) (G : Nat → Nat → Nat) (L : Nat) (lab : Nat → Nat) (F : Nat → Option Nat) (Rn : Nat → Nat) : Prop := ∀ r, r < 32 → (F r, Rn r) = stp n z G L lab F r
theorem lastN_lt {n L : Nat} : ∀ {m a : Nat}, lastN n L m = some a → a < m ∧ a < n ∧ L.testBit a = true
  | m + 1, a, h => by
    unfold lastN at h
    split at h
    · rename_i q
      simp only [Bool.and_eq_true, decide_eq_true_eq] at q
      cases h
      exact ⟨by omega, q.2, q.1⟩
    · have := lastN_lt h
      exact ⟨by omega, this.2⟩
theorem pt_lt {n : Nat} {z : Nat → Nat} {L r q : Nat} (h : pt n z L r = some q) : q < r := by
  unfold pt at h
  split at h
  · cases h; omega
  · split at h
    · cases h
    · rename_i a ha
      split at h
      · cases h
        have := lastN_lt ha
        omega
      · cases h
theorem fndU_cong {n : Nat} {z : Nat → Nat} {L : Nat} {F F' : Nat → Option Nat} {a c : Nat} : ∀ i, (∀ k, k < i → F (4 * a + k) = F' (4 * a + k)) → fndU n z L F a c i = fndU n z L F' a c i
  | 0, _ => rfl
  | i + 1, h => by
    unfold fndU
    rw [fndU_cong i (fun k hk => h k (by omega)), h i (by omega)]
theorem tl_cong {n : Nat} {z : Nat → Nat} {G : Nat → Nat → Nat} {L : Nat} {f : Nat → Bool} {F F' : Nat → Option Nat} {r kd lt fg : Nat} (h : ∀ q, q < r → F q = F' q) : tl n z G L f F r kd lt fg = tl n z G L f F' r kd lt fg := by
  unfold tl
  split
  · cases hp : pt n z L r with
    | none => rfl
    | some q => simp only; rw [h q (pt_lt hp)]
  · split
    · split
      · rename_i ha
        unfold ahd at ha
        simp only [Bool.and_eq_true, decide_eq_true_eq] at ha
        have : QA n z G L f F fg lt = QA n z G L f F' fg lt := by
          funext c
          unfold QA
          rw [fndU_cong 4 (fun k hk => h _ (by omega))]
        rw [this]
      · rfl
    · rfl
theorem stp_cong {n : Nat} {z : Nat → Nat} {G : Nat → Nat → Nat} {L : Nat} {lab : Nat → Nat} {F F' : Nat → Option Nat} {r : Nat} (h : ∀ q, q < r → F q = F' q) : stp n z G L lab F r = stp n z G L lab F' r := by
  unfold stp
  rw [tl_cong h]
theorem RS_one {n : Nat} {z : Nat → Nat} {G : Nat → Nat → Nat} {L : Nat} {lab : Nat → Nat} {F F' : Nat → Option Nat} {Rn Rn' : Nat → Nat} (h : RS n z G L lab F Rn) (h' : RS n z G L lab F' Rn') : ∀ r, r < 32 → F r = F' r ∧ Rn r = Rn' r := by
  intro r
  induction r using Nat.strongRecOn with
  | ind r ih =>
    intro hr
    have a := h r hr
    have b := h' r hr
    rw [stp_cong (F' := F') (fun q hq => (ih q hq (by omega)).1), ← b] at a
    exact ⟨congrArg Prod.fst a, congrArg Prod.snd a⟩
/-! .. as the reference computes it -/
theorem m_short {n : Nat} {z : Nat → Nat} {G : Nat → Nat → Nat} {p : Nat → Int32} (ha : aP n z G) (hm : mP n z G p) {L N : Nat} {lab : Nat → Nat} (hN : 2000 ≤ N) {c1 : Int32} {cf : Nat → Int32} (hc : eC (fx n z G L lab) c1 cf) (x : Int32) {r lt : Nat} (hr : r < 1000) (hlt : lt < 1000) :
    f_X7_byShort N c1 cf p x (nI r) (nI lt) = some (uq (QS G (fx n z G L lab) r lt) (fb_ct (fx n z G L lab) 32)) := by
  have hnc := fb_ct_le (fx n z G L lab) 32
  have main := lp_up (fun n' i (s : Int32) => lp_X7_byShort_7 c1 cf p (nI r) (nI lt) n' s (nI i)) (fb_ct (fx n z G L lab) 32)
    (fun i s => s = uq (QS G (fx n z G L lab) r lt) i) (fun b => b = uq (QS G (fx n z G L lab) r lt) (fb_ct (fx n z G L lab) 32))
    (fun m s hs => ⟨s, by simp only [lp_X7_byShort_7]; rw [hc.1, if_pos (nI_le (Nat.le_refl _) (by omega))], hs⟩)
    (fun m i s hi hs => by
      right
      simp only [lp_X7_byShort_7]
      obtain ⟨k1, k2, k3⟩ := kth_ok hi
      have hv := vF_lt (th_v ha (lf_th (sp_lf (fx_sp k2)))) (i := 1) (by omega)
      refine ⟨uq (QS G (fx n z G L lab) r lt) (i + 1), rfl, ?_⟩
      rw [hc.1, if_neg (nI_ge hi (by omega)), e_rd _ _ (by omega) (by omega), hc.2 i hi]
      have hj : ∀ b : Bool, b = QS G (fx n z G L lab) r lt i → j_X7_byShort_44 (lp_X7_byShort_7 (nI (fb_ct (fx n z G L lab) 32)) cf p (nI r) (nI lt) m) s (nI i) (b1 b) = lp_X7_byShort_7 (nI (fb_ct (fx n z G L lab) 32)) cf p (nI r) (nI lt) m (uq (QS G (fx n z G L lab) r lt) (i + 1)) (nI (i + 1)) := by
        intro b hb
        unfold j_X7_byShort_44 uq
        rw [← hb, hs]
        cases b with
        | false => rw [if_neg (by decide), e_nm, nI_1, if_neg (by decide)]
        | true =>
          rw [if_pos (by decide), if_pos rfl]
          by_cases q : uq (QS G (fx n z G L lab) r lt) i = -9
          · rw [if_neg (fun w => w q), if_pos q, e_nm, nI_1]
          · rw [if_pos q, if_neg q, e_nm, nI_1]
      unfold QS at hj
      by_cases c1 : kth (fx n z G L lab) i < r
      · rw [if_neg (nI_ge c1 (by omega)), m_ini ha hm hc hi, e_b1]
        by_cases c2 : G (kth (fx n z G L lab) i) 1 = lt
        · rw [if_neg (fun w => w (by rw [c2]))]
          exact hj true (by simp [c1, c2])
        · rw [if_pos (fun w => c2 ((nI_eq (by omega) (by omega)).mp w))]
          exact hj false (by simp [c2])
      · rw [if_pos (nI_le (by omega) (by omega))]
        exact hj false (by simp [c1]))
    N 0 (-9) (by omega) (by omega) rfl
  obtain ⟨b, d1, rfl⟩ := main
  unfold f_X7_byShort
  rw [show lp_X7_byShort_7 c1 cf p (nI r) (nI lt) N (-9) 0 = _ from d1, e_b1, e_u1]
theorem oI_c (x : Option Nat) {c : Nat} (hx : ∀ d, x = some d → d < 2 ^ 31) (hc : c < 2 ^ 31) : oI x = nI c ↔ x = some c := by
  cases x with
  | none => exact ⟨fun w => absurd w.symm (n_m9 hc), fun w => by cases w⟩
  | some d =>
    unfold oI
    rw [nI_eq (hx d rfl) hc]
    constructor
    · intro w; rw [w]
    · intro w; cases w; rfl
theorem m_above {n : Nat} {z : Nat → Nat} {G : Nat → Nat → Nat} {p : Nat → Int32} (ha : aP n z G) (hm : mP n z G p) {L N : Nat} {lab : Nat → Nat} (hL : L < 2 ^ 31) (hN : 2000 ≤ N) {c1 : Int32} {cf fi : Nat → Int32} (hc : eC (fx n z G L lab) c1 cf) {F : Nat → Option Nat} {a lt : Nat} (ha8 : a < 8) (hlt : lt < 1000) (hf : ∀ q, q < 4 * a + 4 → fi q = oI (F q)) (hF : ∀ q c, F q = some c → c < 32) :
    f_X7_byAbove N c1 cf fi p (nI L) (nI a) (nI lt) = some (uq (QA n z G L (fx n z G L lab) F a lt) (fb_ct (fx n z G L lab) 32)) := by
  have hnc := fb_ct_le (fx n z G L lab) 32
  have inner : ∀ c, c < 32 → lp_X7_byAbove_22 fi p (nI L) (nI a) (nI c) N 0 0 = some (b1 (fndU n z L F a c 4)) := by
    intro c hc32
    have main := lp_up (fun n' i (s : Int32) => lp_X7_byAbove_22 fi p (nI L) (nI a) (nI c) n' s (nI i)) 4
      (fun i s => s = b1 (fndU n z L F a c i)) (fun b => b = b1 (fndU n z L F a c 4))
      (fun m s hs => ⟨s, by simp only [lp_X7_byAbove_22]; rw [if_pos (by decide)], hs⟩)
      (fun m i s hi hs => by
        right
        simp only [lp_X7_byAbove_22]
        refine ⟨b1 (fndU n z L F a c (i + 1)), rfl, ?_⟩
        rw [if_neg (show ¬ (4 : Int32) ≤ nI i from nI_ge (b := 4) hi (by omega)), show (4 : Int32) * nI a + nI i = nI (4 * a + i) from by rw [show (4 : Int32) = nI 4 from rfl, pk_mul, nI_add], hs, fndU_s]
        cases h1 : fndU n z L F a c i with
        | true => rw [if_pos (by decide), e_nm, nI_1]; rfl
        | false =>
          rw [if_neg (by decide), m_left ha hm hL (by omega), e_b1]
          cases h2 : lf n z L (4 * a + i) with
          | false => rw [if_pos (by decide), e_nm, nI_1]; rfl
          | true =>
            rw [if_neg (by decide), e_rd _ _ (by omega) (by omega), hf _ (by omega)]
            by_cases h3 : F (4 * a + i) = some c
            · rw [if_neg (fun w => w ((oI_c _ (fun d hd => by have := hF _ d hd; omega) (by omega)).mpr h3)), e_nm, nI_1]; simp [h3, b1]
            · rw [if_pos (fun w => h3 ((oI_c _ (fun d hd => by have := hF _ d hd; omega) (by omega)).mp w)), e_nm, nI_1]; simp [h3, b1])
      N 0 0 (by omega) (by omega) rfl
    obtain ⟨b, d1, rfl⟩ := main
    exact d1
  have main := lp_up (fun n' i (s : Int32) => lp_X7_byAbove_7 N c1 cf fi p (nI L) (nI a) (nI lt) n' s (nI i)) (fb_ct (fx n z G L lab) 32)
    (fun i s => s = uq (QA n z G L (fx n z G L lab) F a lt) i) (fun b => b = uq (QA n z G L (fx n z G L lab) F a lt) (fb_ct (fx n z G L lab) 32))
    (fun m s hs => ⟨s, by simp only [lp_X7_byAbove_7]; rw [hc.1, if_pos (nI_le (Nat.le_refl _) (by omega))], hs⟩)
    (fun m i s hi hs => by
      right
      simp only [lp_X7_byAbove_7]
      obtain ⟨k1, k2, k3⟩ := kth_ok hi
      have hv := vF_lt (th_v ha (lf_th (sp_lf (fx_sp k2)))) (i := 1) (by omega)
      refine ⟨uq (QA n z G L (fx n z G L lab) F a lt) (i + 1), rfl, ?_⟩
      rw [hc.1, if_neg (nI_ge hi (by omega)), inner i (by omega), e_b1, e_u1, hs]
      have hq : QA n z G L (fx n z G L lab) F a lt i = (fndU n z L F a i 4 && decide (G (kth (fx n z G L lab) i) 1 = lt)) := rfl
      rw [uq_s, hq]
      cases h1 : fndU n z L F a i 4 with
      | false => rw [if_pos (by decide), e_nm, nI_1]; simp
      | true =>
        rw [if_neg (by decide), m_ini ha hm hc hi, e_b1]
        by_cases h2 : G (kth (fx n z G L lab) i) 1 = lt
        · rw [if_pos (by rw [h2]), Bool.true_and, if_pos (decide_eq_true h2)]
          by_cases q : uq (QA n z G L (fx n z G L lab) F a lt) i = -9
          · rw [if_neg (fun w => w q), if_pos q, e_nm, nI_1]
          · rw [if_pos q, if_neg q, e_nm, nI_1]
        · rw [if_neg (fun w => h2 ((nI_eq (by omega) (by omega)).mp w)), e_nm, nI_1, Bool.true_and, if_neg (by simp [h2])])
    N 0 (-9) (by omega) (by omega) rfl
  obtain ⟨b, d1, rfl⟩ := main
  unfold f_X7_byAbove
  rw [show lp_X7_byAbove_7 N c1 cf fi p (nI L) (nI a) (nI lt) N (-9) 0 = _ from d1, e_b1, e_u1]
theorem m_pt {n : Nat} {z : Nat → Nat} {G : Nat → Nat → Nat} {p : Nat → Int32} (ha : aP n z G) (hm : mP n z G p) {L N : Nat} (hL : L < 2 ^ 31) (hN : 2000 ≤ N) {r : Nat} (hr : r < 32) : f_X7_pointed N p (nI L) (nI r) = some (oI (pt n z L r)) := by
  have h8 := ha.1
  unfold f_X7_pointed pt
  rw [mod4 r (by omega)]
  by_cases c0 : 0 < r % 4
  · rw [if_pos c0, if_neg (nI_nle c0 (by omega)), n_m1 (by omega)]; rfl
  · rw [if_neg c0, if_pos (by rw [show r % 4 = 0 by omega]; decide)]
    have main := lp_up (fun n' i (s : Int32) => lp_X7_pointed_16 p (nI L) (nI r) n' s (nI i)) (r / 4)
      (fun i s => s = oI (lastN n L i)) (fun b => b = oI (lastN n L (r / 4)))
      (fun m s hs => ⟨s, by simp only [lp_X7_pointed_16]; rw [div4 r (by omega), if_pos (nI_le (Nat.le_refl _) (by omega))], hs⟩)
      (fun m i s hi hs => by
        right
        simp only [lp_X7_pointed_16]
        rw [div4 r (by omega), if_neg (nI_ge hi (by omega)), m_has hL (by omega), e_b1]
        refine ⟨oI (lastN n L (i + 1)), rfl, ?_⟩
        have hls : lastN n L (i + 1) = if (L.testBit i && decide (i < n)) = true then some i else lastN n L i := rfl
        rw [hls]
        cases h1 : L.testBit i with
        | false => rw [if_pos (by decide), e_nm, nI_1, Bool.false_and, if_neg (by decide), hs]
        | true =>
          rw [if_neg (by decide), rd0, hm.1, Bool.true_and]
          by_cases h2 : i < n
          · rw [if_neg (nI_ge h2 (by omega)), e_nm, nI_1, if_pos (decide_eq_true h2)]; rfl
          · rw [if_pos (nI_le (by omega) (by omega)), e_nm, nI_1, if_neg (by simp [h2]), hs])
      N 0 (-9) (by omega) (by omega) rfl
    obtain ⟨b, d1, rfl⟩ := main
    rw [show lp_X7_pointed_16 p (nI L) (nI r) N (-9) 0 = _ from d1, e_b1, e_u1]
    cases hl : lastN n L (r / 4) with
    | none => rw [if_pos (show oI none = -9 from rfl)]; rfl
    | some a =>
      have := lastN_lt hl
      have hz := (ha.2 a this.2.1).2.1
      show (if nI a = -9 then _ else _) = _
      rw [if_neg (n_m9 (by omega)), show oI (some a) = nI a from rfl, show (1 : Int32) + nI a = nI (1 + a) from a_add 1 a, e_rd _ _ (by omega) (by omega), (hm.2 a this.2.1).1]
      simp only
      by_cases c1 : z a = 1
      · rw [if_pos (by rw [c1]; rfl), if_pos c1, show (4 : Int32) = nI 4 from rfl, pk_mul]; rfl
      · rw [if_neg (show ¬ nI (z a) = 1 from fun w => c1 ((nI_eq (b := 1) (by omega) (by omega)).mp w)), if_neg c1]; rfl
theorem m_ahd {n : Nat} {z : Nat → Nat} {G : Nat → Nat → Nat} {p : Nat → Int32} (ha : aP n z G) (hm : mP n z G p) {L a r : Nat} (hL : L < 2 ^ 31) (hr : r < 32) (ha9 : a < 100) : f_X7_isAhead p (nI L) (nI a) (nI r) = some (b1 (ahd n L a r)) := by
  have h8 := ha.1
  unfold f_X7_isAhead ahd
  rw [div4 r (by omega)]
  by_cases c1 : a < r / 4
  · rw [if_neg (nI_ge c1 (by omega)), rd0, hm.1, decide_eq_true c1, Bool.true_and]
    by_cases c2 : a < n
    · rw [if_neg (nI_ge c2 (by omega)), m_has hL (by omega), e_b1, decide_eq_true c2, Bool.true_and]
      cases L.testBit a <;> simp [b1]
    · rw [if_pos (nI_le (by omega) (by omega)), decide_eq_false c2, Bool.false_and]; rfl
  · rw [if_pos (nI_le (by omega) (by omega)), decide_eq_false c1, Bool.false_and]; rfl
def oR (x : Option Nat × Nat) : Int32 × Int32 := (oI x.1, nI x.2)
theorem m_124 {Q : Nat → Bool} {m : Nat} (hm : m < 2 ^ 31) : j_X7_told_124 (uq Q m) = some (oR (uqS Q m)) := by
  unfold j_X7_told_124 uqS
  rcases uq_char Q m hm with ⟨-, h⟩ | ⟨c, hc, -, -, h⟩ | ⟨-, h⟩
  · rw [h, if_neg (fun w => w rfl), if_pos (by decide), if_pos rfl]; rfl
  · rw [h, if_pos (n_m9 (by omega)), if_pos (n_m10 (by omega)), if_neg (fun w => w rfl), if_neg (n_m9 (by omega)), if_neg (n_m10 (by omega)), nI_clamp (by omega)]; rfl
  · rw [h, if_pos (by decide), if_neg (fun w => w rfl), if_pos (by decide), if_neg (by decide), if_pos rfl]; rfl
theorem m_told {n : Nat} {z : Nat → Nat} {G : Nat → Nat → Nat} {p : Nat → Int32} (ha : aP n z G) (hm : mP n z G p) {L N : Nat} {lab : Nat → Nat} (hL : L < 2 ^ 31) (hN : 2000 ≤ N) {c1 : Int32} {cf fi : Nat → Int32} (hc : eC (fx n z G L lab) c1 cf) {F : Nat → Option Nat} {r kd lt fg : Nat} (hr : r < 32) (hk : kd = 1 ∨ kd = 2 ∨ kd = 3) (hlt : lt < 1000) (hfg : fg < 100) (hf : ∀ q, q < r → fi q = oI (F q)) (hF : ∀ q c, F q = some c → c < 32) (lr : Int32) :
    f_X7_told N c1 lr cf fi p (nI L) (nI r) (nI kd) (nI lt) (nI fg) = some (oR (tl n z G L (fx n z G L lab) F r kd lt fg)) := by
  have hnc := fb_ct_le (fx n z G L lab) 32
  unfold f_X7_told tl
  rcases hk with rfl | rfl | rfl
  · rw [if_pos (by decide), if_pos (by decide), if_neg (by decide), if_neg (by decide)]
    unfold j_X7_told_96
    rw [if_neg (by decide), m_short ha hm hN hc _ (by omega) hlt, e_b1, m_124 (by omega)]
  · rw [if_neg (by decide), if_pos rfl, m_pt ha hm hL hN hr, e_b1]
    cases hp : pt n z L r with
    | none => rw [if_neg (fun w => w rfl), if_pos (by decide)]; rfl
    | some q =>
      have hq := pt_lt hp
      rw [show oI (some q) = nI q from rfl, if_pos (n_m9 (by omega)), e_rd _ _ (by omega) (by omega), hf q hq]
      cases hFq : F q with
      | none => rw [if_neg (fun w => w rfl), if_pos (by decide)]; simp only [hFq]; rfl
      | some c =>
        have := hF q c hFq
        rw [show oI (some c) = nI c from rfl, if_pos (n_m9 (by omega)), if_neg (fun w => w rfl), e_rd _ _ (by omega) (by omega), hf q hq, hFq]
        simp only [hFq]; rfl
  · rw [if_pos (by decide), if_neg (by decide), if_neg (by decide), if_pos rfl, m_ahd ha hm hL hr hfg, e_b1]
    cases h1 : ahd n L fg r with
    | false => rw [if_neg (by decide), if_neg (by decide)]; rfl
    | true =>
      unfold ahd at h1
      simp only [Bool.and_eq_true, decide_eq_true_eq] at h1
      rw [if_pos (by decide), if_pos rfl]
      unfold j_X7_told_96
      rw [if_pos (by decide), m_above ha hm hL hN hc (by omega) hlt (fun q hq => hf q (by omega)) hF, e_b1, m_124 (by omega)]
theorem uqS_lt {Q : Nat → Bool} {m c : Nat} (hm : m < 2 ^ 31) (h : (uqS Q m).1 = some c) : c < m := by
  unfold uqS at h
  rcases uq_char Q m hm with ⟨-, e⟩ | ⟨d, hd, -, -, e⟩ | ⟨-, e⟩
  · rw [e, if_pos rfl] at h; cases h
  · rw [e, if_neg (n_m9 (by omega)), if_neg (n_m10 (by omega)), nI_clamp (by omega)] at h
    cases h; exact hd
  · rw [e, if_neg (by decide), if_pos rfl] at h; cases h
theorem tl_lt {n : Nat} {z : Nat → Nat} {G : Nat → Nat → Nat} {L : Nat} {f : Nat → Bool} {F : Nat → Option Nat} {r kd lt fg c : Nat} (hF : ∀ q c, F q = some c → c < 32) (h : (tl n z G L f F r kd lt fg).1 = some c) : c < 32 := by
  have hnc := fb_ct_le f 32
  unfold tl at h
  split at h
  · split at h
    · cases h
    · split at h
      · cases h
      · rename_i q _ d hd
        cases h
        exact hF _ _ hd
  · split at h
    · split at h
      · have := uqS_lt (by omega) h; omega
      · cases h
    · have := uqS_lt (by omega) h; omega
/-- the whole search -/
theorem m_find {n : Nat} {z : Nat → Nat} {G : Nat → Nat → Nat} {p : Nat → Int32} (ha : aP n z G) (hm : mP n z G p) {L N : Nat} (hL : L < 2 ^ 31) (hN : 2000 ≤ N) (c0 l0 : Int32) (cf0 fi0 lb0 rn0 : Nat → Int32) :
    ∃ (c1 l1 : Int32) (cf fi lb rn : Nat → Int32) (lab : Nat → Nat) (F : Nat → Option Nat) (Rn : Nat → Nat), f_X7_find N c0 l0 cf0 fi0 lb0 rn0 p (nI L) = some (c1, l1, cf, fi, lb, rn) ∧ LB (sp n z G L) (mt G) lab ∧ eC (fx n z G L lab) c1 cf ∧ RS n z G L lab F Rn ∧
      (∀ r, r < 32 → fi r = oI (F r) ∧ rn r = nI (Rn r)) ∧ (∀ q c, F q = some c → c < 32) := by
  obtain ⟨c1, cf, lb, lab, a1, a2, a3, a4⟩ := m_lay ha hm hL hN c0 cf0 lb0
  have hnc := fb_ct_le (fx n z G L lab) 32
  have main := lp_up (fun n' i (s : Int32 × (Nat → Int32) × (Nat → Int32)) => lp_X7_find_8 N p (nI L) c1 cf lb n' (nI i) s.1 s.2.1 s.2.2) 32
    (fun i s => ∃ (F : Nat → Option Nat) (Rn : Nat → Nat), (∀ r, r < i → (F r, Rn r) = stp n z G L lab F r) ∧ (∀ r, r < i → s.2.1 r = oI (F r) ∧ s.2.2 r = nI (Rn r)) ∧ (∀ q c, F q = some c → c < 32))
    (fun b => ∃ (F : Nat → Option Nat) (Rn : Nat → Nat), RS n z G L lab F Rn ∧ (∀ r, r < 32 → b.2.1 r = oI (F r) ∧ b.2.2 r = nI (Rn r)) ∧ (∀ q c, F q = some c → c < 32))
    (fun m s h => ⟨s, by simp only [lp_X7_find_8]; rw [if_pos (by decide)], h⟩)
    (fun m i s hi h => by
      obtain ⟨l1, fi, rn⟩ := s
      obtain ⟨F, Rn, h1, h2, h3⟩ := h
      simp only at h2 ⊢
      right
      have ext : ∀ (v : Option Nat × Nat) (l2 : Int32) (fi2 rn2 : Nat → Int32), v = stp n z G L lab F i → (∀ c, v.1 = some c → c < 32) → (∀ r, r < i → fi2 r = fi r ∧ rn2 r = rn r) → fi2 i = oI v.1 → rn2 i = nI v.2 →
          ∃ (F' : Nat → Option Nat) (Rn' : Nat → Nat), (∀ r, r < i + 1 → (F' r, Rn' r) = stp n z G L lab F' r) ∧ (∀ r, r < i + 1 → fi2 r = oI (F' r) ∧ rn2 r = nI (Rn' r)) ∧ (∀ q c, F' q = some c → c < 32) := by
        intro v l2 fi2 rn2 hv hlt hsame e1 e2
        have hc : ∀ r, r ≤ i → stp n z G L lab (fun j => if j = i then v.1 else F j) r = stp n z G L lab F r := fun r hr => stp_cong (fun q hq => by simp only [show ¬ q = i by omega, if_false])
        refine ⟨fun j => if j = i then v.1 else F j, fun j => if j = i then v.2 else Rn j, fun r hr => ?_, fun r hr => ?_, fun q c hq => ?_⟩
        · rw [hc r (by omega)]
          by_cases e : r = i
          · subst e; simp only [if_true]; exact hv
          · simp only [e, if_false]; exact h1 r (by omega)
        · by_cases e : r = i
          · subst e; simp only [if_true]; exact ⟨e1, e2⟩
          · simp only [e, if_false]
            rw [(hsame r (by omega)).1, (hsame r (by omega)).2]
            exact h2 r (by omega)
        · by_cases e : q = i
          · subst e; simp only [if_true] at hq; exact hlt c hq
          · simp only [e, if_false] at hq; exact h3 q c hq
      rw [lp_X7_find_8, show (32 : Int32) = nI 32 from rfl, if_neg (nI_ge hi (by omega)), e_wrI _ _ _ hi (by omega), e_wrI _ _ _ hi (by omega), m_sp ha hm hL (by omega), e_b1]
      cases c2 : sp n z G L i with
      | true =>
        refine ⟨(l1, upd (upd fi i (-9)) i (nI (cs n z G L lab i)), upd rn i 0), ext (some (cs n z G L lab i), 0) l1 (upd (upd fi i (-9)) i (nI (cs n z G L lab i))) (upd rn i 0) ?_ ?_ ?_ ?_ ?_, ?_⟩
        · unfold stp; rw [if_pos c2]
        · intro c hc; cases hc; have := cs_lt ha.1 a3 c2; omega
        · intro r hr; rw [upd_n _ _ (by omega), upd_n _ _ (by omega), upd_n _ _ (by omega)]; exact ⟨rfl, rfl⟩
        · rw [upd_s]; rfl
        · rw [upd_s]; rfl
        · rw [if_neg (by decide), m_caseOf ha.1 a3 hN a2 a4 c2, e_b1, e_wrI _ _ _ hi (by omega), e_nm, nI_1]
      | false =>
        rw [if_pos (by decide), m_left ha hm hL (by omega), e_b1]
        cases c3 : lf n z L i with
        | false =>
          refine ⟨(l1, upd fi i (-9), upd rn i 0), ext (none, 0) l1 (upd fi i (-9)) (upd rn i 0) ?_ ?_ ?_ ?_ ?_, ?_⟩
          · unfold stp; rw [if_neg (by rw [c2]; decide), if_neg (by rw [c3]; decide)]
          · intro c hc; cases hc
          · intro r hr; rw [upd_n _ _ (by omega), upd_n _ _ (by omega)]; exact ⟨rfl, rfl⟩
          · rw [upd_s]; rfl
          · rw [upd_s]; rfl
          · rw [if_pos (by decide), e_nm, nI_1]
        | true =>
          have ht := lf_th c3
          have hv := th_v ha ht
          have hk : G i 0 = 1 ∨ G i 0 = 2 ∨ G i 0 = 3 := by
            have hn0 : G i 0 ≠ 0 := by
              intro w
              unfold sp at c2
              rw [c3, w] at c2
              exact absurd c2 (by decide)
            unfold vF at hv
            omega
          have hb := vF_b hv
          obtain ⟨v, hv0⟩ : ∃ v, v = tl n z G L (fx n z G L lab) F i (G i 0) (G i 5) (G i 6) := ⟨_, rfl⟩
          refine ⟨(nI v.2, upd (upd fi i (-9)) i (oI v.1), upd (upd rn i 0) i (nI v.2)), ext v (nI v.2) (upd (upd fi i (-9)) i (oI v.1)) (upd (upd rn i 0) i (nI v.2)) ?_ ?_ ?_ ?_ ?_, ?_⟩
          · unfold stp; rw [if_neg (by rw [c2]; decide), if_pos c3]; exact hv0
          · intro c hc; rw [hv0] at hc; exact tl_lt h3 hc
          · intro r hr; rw [upd_n _ _ (by omega), upd_n _ _ (by omega), upd_n _ _ (by omega), upd_n _ _ (by omega)]; exact ⟨rfl, rfl⟩
          · rw [upd_s]
          · rw [upd_s]
          · rw [if_neg (by decide), show f_X7_ref p (nI i) 0 = _ from m_refT ha hm ht (i := 0) (by omega), e_b1, show f_X7_ref p (nI i) 5 = _ from m_refT ha hm ht (i := 5) (by omega), e_b1, show f_X7_ref p (nI i) 6 = _ from m_refT ha hm ht (i := 6) (by omega), e_b1,
              m_told ha hm hL hN a4 hi hk (by omega) (by omega) (fun q hq => by rw [upd_n _ _ (by omega)]; exact (h2 q hq).1) h3, ← hv0]
            unfold oR
            rw [e_b2, e_wrI _ _ _ hi (by omega), e_wrI _ _ _ hi (by omega), e_nm, nI_1])
    N 0 (l0, fi0, rn0) (by omega) (by omega) ⟨fun _ => none, fun _ => 0, fun r hr => by omega, fun r hr => by omega, fun q c h => by cases h⟩
  obtain ⟨⟨l1, fi, rn⟩, d1, F, Rn, d2, d3, d4⟩ := main
  refine ⟨c1, l1, cf, fi, lb, rn, lab, F, Rn, ?_, a3, a4, d2, d3, d4⟩
  unfold f_X7_find
  rw [a1, e_b3, show lp_X7_find_8 N p (nI L) c1 cf lb N 0 l0 fi0 rn0 = _ from d1, e_b1, e_u3]
