/-! what a paper's references find is one thing: pick it -/
def TT (n : Nat) (z : Nat → Nat) (G : Nat → Nat → Nat) (L : Nat) (T : (Nat → Nat) × (Nat → Option Nat) × (Nat → Nat)) : Prop := LB (sp n z G L) (mt G) T.1 ∧ RS n z G L T.1 T.2.1 T.2.2 ∧ ∀ q c, T.2.1 q = some c → c < 32
theorem fx_one {n : Nat} {z : Nat → Nat} {G : Nat → Nat → Nat} (ha : aP n z G) {L : Nat} {l1 l2 : Nat → Nat} (h1 : LB (sp n z G L) (mt G) l1) (h2 : LB (sp n z G L) (mt G) l2) : fx n z G L l1 = fx n z G L l2 := by
  funext r
  unfold fx
  cases h : sp n z G L r with
  | false => rfl
  | true => rw [LB_one (fun r h => sp_lt h ha.1) h1 h2 h]
theorem stp_one {n : Nat} {z : Nat → Nat} {G : Nat → Nat → Nat} (ha : aP n z G) {L : Nat} {l1 l2 : Nat → Nat} (h1 : LB (sp n z G L) (mt G) l1) (h2 : LB (sp n z G L) (mt G) l2) (F : Nat → Option Nat) (r : Nat) : stp n z G L l1 F r = stp n z G L l2 F r := by
  unfold stp
  rw [fx_one ha h1 h2]
  by_cases h : sp n z G L r = true
  · rw [if_pos h, if_pos h]
    unfold cs
    rw [fx_one ha h1 h2, LB_one (fun r h => sp_lt h ha.1) h1 h2 h]
  · rw [if_neg h, if_neg h]
def pgO (n : Nat) (z : Nat → Nat) (G : Nat → Nat → Nat) (i : Nat) : Int32 := if i = 0 then nI n else if i < 9 then nI (z (i - 1)) else nI (G ((i - 9) / 8) ((i - 9) % 8))
theorem pgO_m {n : Nat} {z : Nat → Nat} {G : Nat → Nat → Nat} (ha : aP n z G) : mP n z G (pgO n z G) := by
  have h8 := ha.1
  refine ⟨rfl, fun k hk => ⟨?_, fun j _ i hi => ?_⟩⟩
  · unfold pgO
    rw [if_neg (by omega), if_pos (by omega), show 1 + k - 1 = k by omega]
  · unfold pgO
    rw [if_neg (by omega), if_neg (by omega), show (9 + 8 * (4 * k + j) + i - 9) / 8 = 4 * k + j by omega, show (9 + 8 * (4 * k + j) + i - 9) % 8 = i by omega]
theorem TT_ex {n : Nat} {z : Nat → Nat} {G : Nat → Nat → Nat} (ha : aP n z G) {L : Nat} (hL : L < 2 ^ 31) : ∃ T, TT n z G L T := by
  obtain ⟨c1, l1, cf, fi, lb, rn, lab, F, Rn, _, a2, _, a4, _, a6⟩ := m_find ha (pgO_m ha) hL (N := 2000) (Nat.le_refl _) 0 0 (fun _ => 0) (fun _ => 0) (fun _ => 0) (fun _ => 0)
  exact ⟨(lab, F, Rn), a2, a4, a6⟩

noncomputable def TC (n : Nat) (z : Nat → Nat) (G : Nat → Nat → Nat) (L : Nat) : (Nat → Nat) × (Nat → Option Nat) × (Nat → Nat) := @dite _ (∃ T, TT n z G L T) (Classical.propDecidable _) (fun h => Classical.choose h) (fun _ => (fun _ => 0, fun _ => none, fun _ => 0))
theorem TC_ok {n : Nat} {z : Nat → Nat} {G : Nat → Nat → Nat} (ha : aP n z G) {L : Nat} (hL : L < 2 ^ 31) : TT n z G L (TC n z G L) := by
  unfold TC
  rw [dif_pos (TT_ex ha hL)]
  exact Classical.choose_spec (TT_ex ha hL)
theorem TT_one {n : Nat} {z : Nat → Nat} {G : Nat → Nat → Nat} (ha : aP n z G) {L : Nat} {T U : (Nat → Nat) × (Nat → Option Nat) × (Nat → Nat)} (h : TT n z G L T) (k : TT n z G L U) : fx n z G L T.1 = fx n z G L U.1 ∧ (∀ r, sp n z G L r = true → T.1 r = U.1 r) ∧ ∀ r, r < 32 → T.2.1 r = U.2.1 r ∧ T.2.2 r = U.2.2 r :=
  ⟨fx_one ha h.1 k.1, fun _ hr => LB_one (fun _ w => sp_lt w ha.1) h.1 k.1 hr, RS_one (lab := U.1) (fun r hr => by rw [← stp_one ha h.1 k.1]; exact h.2.1 r hr) k.2.1⟩
/-- the reference's find, of the one thing -/
theorem m_findC {n : Nat} {z : Nat → Nat} {G : Nat → Nat → Nat} {p : Nat → Int32} (ha : aP n z G) (hm : mP n z G p) {L N : Nat} (hL : L < 2 ^ 31) (hN : 2000 ≤ N) (c0 l0 : Int32) (cf0 fi0 lb0 rn0 : Nat → Int32) :
    ∃ (c1 l1 : Int32) (cf fi lb rn : Nat → Int32), f_X7_find N c0 l0 cf0 fi0 lb0 rn0 p (nI L) = some (c1, l1, cf, fi, lb, rn) ∧ eC (fx n z G L (TC n z G L).1) c1 cf ∧ ∀ r, r < 32 → fi r = oI ((TC n z G L).2.1 r) ∧ rn r = nI ((TC n z G L).2.2 r) := by
  obtain ⟨c1, l1, cf, fi, lb, rn, lab, F, Rn, a1, a2, a3, a4, a5, a6⟩ := m_find ha hm hL hN c0 l0 cf0 fi0 lb0 rn0
  obtain ⟨e1, e2, e3⟩ := TT_one ha (T := (lab, F, Rn)) ⟨a2, a4, a6⟩ (TC_ok ha hL)
  refine ⟨c1, l1, cf, fi, lb, rn, a1, by rw [← e1]; exact a3, fun r hr => ?_⟩
  rw [(a5 r hr).1, (a5 r hr).2, ← (e3 r hr).1, ← (e3 r hr).2]
  exact ⟨rfl, rfl⟩
