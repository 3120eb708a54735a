/-! loops that look for one, count, or gather a yes -/
section
variable {n : Nat} {z : Nat → Nat} {G : Nat → Nat → Nat} {p sz : Nat → Int32} {ci : Nat → Int64} {L N : Nat} {pr cs0 ct av dd fl c1 : Int32} {ca fs fb mb nb ra lk cf fi rn : Nat → Int32}
theorem ct_s (Q : Nat → Bool) (i : Nat) : decide (0 < fb_ct Q (i + 1)) = (decide (0 < fb_ct Q i) || Q i) := by
  rw [fb_ct_succ]
  cases Q i <;> simp
theorem lp_any {β : Type} (L : Nat → Nat → Option β) (e : Nat) (Q : Nat → Bool) (x y : β) (hx : ∀ m, L (m + 1) e = some y) (hs : ∀ m i, i < e → L (m + 1) i = if Q i = true then some x else L m (i + 1)) (N : Nat) (hN : e < N) : L N 0 = some (if 0 < fb_ct Q e then x else y) := by
  have main : ∀ N i, i ≤ e → e - i < N → fb_ct Q i = 0 → L N i = some (if 0 < fb_ct Q e then x else y) := by
    intro N
    induction N with
    | zero => intro i _ h; omega
    | succ m ih =>
      intro i hi hN h0
      by_cases q : i = e
      · subst q; rw [hx, if_neg (by omega)]
      · rw [hs m i (by omega)]
        cases hq : Q i with
        | true => rw [if_pos rfl, if_pos (fb_ct_pos.mpr ⟨i, by omega, hq⟩)]
        | false =>
          rw [if_neg (by decide)]
          exact ih (i + 1) (by omega) (by omega) (by rw [fb_ct_succ, h0, hq]; rfl)
  exact main N 0 (by omega) (by omega) rfl
theorem lp_cnt {β : Type} (L : Nat → Nat → Int32 → Option β) (e : Nat) (Q : Nat → Bool) (g : Int32 → β) (hx : ∀ m s, L (m + 1) e s = some (g s)) (hs : ∀ m i k, i < e → L (m + 1) i (nI k) = L m (i + 1) (nI (k + if Q i = true then 1 else 0))) (N : Nat) (hN : e < N) : L N 0 0 = some (g (nI (fb_ct Q e))) := by
  have main := lp_up L e (fun i s => s = nI (fb_ct Q i)) (fun b => b = g (nI (fb_ct Q e)))
    (fun m s h => ⟨g s, hx m s, by rw [h]⟩)
    (fun m i s hi h => Or.inr ⟨nI (fb_ct Q (i + 1)), rfl, by rw [h, hs m i _ hi, fb_ct_succ]⟩)
    N 0 (nI 0) (by omega) (by omega) rfl
  obtain ⟨b, h1, h2⟩ := main
  rw [show L N 0 0 = some b from h1, h2]
theorem lp_or {β : Type} (L : Nat → Nat → Int32 → Option β) (e : Nat) (Q : Nat → Bool) (g : Int32 → β) (hx : ∀ m s, L (m + 1) e s = some (g s)) (hs : ∀ m i b, i < e → L (m + 1) i (b1 b) = L m (i + 1) (b1 (b || Q i))) (N : Nat) (hN : e < N) : L N 0 0 = some (g (b1 (decide (0 < fb_ct Q e)))) := by
  have main := lp_up L e (fun i s => s = b1 (decide (0 < fb_ct Q i))) (fun b => b = g (b1 (decide (0 < fb_ct Q e))))
    (fun m s h => ⟨g s, hx m s, by rw [h]⟩)
    (fun m i s hi h => Or.inr ⟨b1 (decide (0 < fb_ct Q (i + 1))), rfl, by rw [h, hs m i _ hi, ct_s]⟩)
    N 0 0 (by omega) (by omega) rfl
  obtain ⟨b, h1, h2⟩ := main
  rw [show L N 0 0 = some b from h1, h2]
theorem oJ_s (c : Nat) : oJ (some c) = nI c := rfl
theorem oI_s (c : Nat) : oI (some c) = nI c := rfl
/-! the whole paper, in fewer words -/
theorem full_bit : ∀ n, n < 9 → ∀ k, k < 8 → (full n).testBit k = decide (k < n) := by decide +kernel
theorem full_31 (n : Nat) : full n < 2 ^ 31 := by have := full_lt n; omega
theorem lf_full (ha : aP n z G) (r : Nat) : lf n z (full n) r = th n z r := by
  unfold lf
  cases h : th n z r with
  | false => rfl
  | true =>
    have h8 := ha.1
    have w := of_decide_eq_true h
    rw [full_bit n (by omega) _ (by omega), decide_eq_true w.1]; rfl
theorem sp_full (ha : aP n z G) (r : Nat) : sp n z G (full n) r = fu n z G r := by
  unfold sp fu
  rw [lf_full ha]
noncomputable def FF (n : Nat) (z : Nat → Nat) (G : Nat → Nat → Nat) : Nat → Option Nat := (TC n z G (full n)).2.1
noncomputable def RR (n : Nat) (z : Nat → Nat) (G : Nat → Nat → Nat) : Nat → Nat := (TC n z G (full n)).2.2
noncomputable def fk (n : Nat) (z : Nat → Nat) (G : Nat → Nat → Nat) : Nat → Bool := fx n z G (full n) (TC n z G (full n)).1
noncomputable def KK (n : Nat) (z : Nat → Nat) (G : Nat → Nat → Nat) : Nat := fb_ct (fk n z G) 32
noncomputable def kf (n : Nat) (z : Nat → Nat) (G : Nat → Nat → Nat) (c : Nat) : Nat := kth (fk n z G) c
theorem KK_le : KK n z G ≤ 32 := fb_ct_le _ 32
theorem mem_F {lab : Nat → Nat} {F : Nat → Option Nat} {Rn : Nat → Nat} (hn : n ≤ 8) (h : LB (sp n z G L) (mt G) lab) (hRS : RS n z G L lab F Rn) {b c : Nat} (hb : sp n z G L b = true) (hc : c < fb_ct (fx n z G L lab) 32) : (lab b = kth (fx n z G L lab) c) ↔ F b = some c := by
  have e := hRS b (sp_lt hb hn)
  unfold stp at e
  rw [if_pos hb] at e
  have e1 : F b = some (cs n z G L lab b) := congrArg Prod.fst e
  rw [e1]
  constructor
  · intro w
    unfold cs
    rw [w, (kth_ok hc).2.2]
  · intro w
    rw [← Option.some.inj w, cs_kth hn h hb]
theorem FF_K (ha : aP n z G) : ∀ r, r < 32 → ∀ c, FF n z G r = some c → c < KK n z G := by
  obtain ⟨t1, t2, t3⟩ := TC_ok ha (full_31 n)
  intro r
  induction r using Nat.strongRecOn with
  | ind r ih =>
    intro hr c hc
    have e := t2 r hr
    unfold stp at e
    by_cases s : sp n z G (full n) r = true
    · rw [if_pos s] at e
      have e1 : FF n z G r = some (cs n z G (full n) (TC n z G (full n)).1 r) := congrArg Prod.fst e
      rw [e1] at hc
      rw [← Option.some.inj hc]
      exact cs_lt ha.1 t1 s
    · rw [if_neg s] at e
      by_cases l : lf n z (full n) r = true
      · rw [if_pos l] at e
        have e1 : FF n z G r = (tl n z G (full n) (fk n z G) (FF n z G) r (G r 0) (G r 5) (G r 6)).1 := congrArg Prod.fst e
        rw [e1] at hc
        unfold tl at hc
        by_cases k2 : G r 0 = 2
        · rw [if_pos k2] at hc
          cases hp : pt n z (full n) r with
          | none => rw [hp] at hc; cases hc
          | some q =>
            rw [hp] at hc
            simp only at hc
            cases hq : FF n z G q with
            | none => rw [hq] at hc; cases hc
            | some d =>
              rw [hq] at hc
              have hd : d = c := Option.some.inj hc
              have hlt := pt_lt hp
              rw [hd] at hq
              exact ih q hlt (by omega) c hq
        · rw [if_neg k2] at hc
          by_cases k3 : G r 0 = 3
          · rw [if_pos k3] at hc
            by_cases k5 : ahd n (full n) (G r 6) r = true
            · rw [if_pos k5] at hc
              exact uqS_lt (by have := KK_le (n := n) (z := z) (G := G); omega) hc
            · rw [if_neg k5] at hc; cases hc
          · rw [if_neg k3] at hc
            exact uqS_lt (by have := KK_le (n := n) (z := z) (G := G); omega) hc
      · rw [if_neg l] at e
        have e1 : FF n z G r = none := congrArg Prod.fst e
        rw [e1] at hc; cases hc
theorem FF_32 (ha : aP n z G) : ∀ q c, FF n z G q = some c → c < 32 := (TC_ok ha (full_31 n)).2.2
theorem FF_th (ha : aP n z G) {r : Nat} (hr : r < 32) (h : FF n z G r ≠ none) : th n z r = true := by
  rw [← lf_full ha]
  exact RS_lf (TC_ok ha (full_31 n)).2.1 hr h
theorem kf_ok (ha : aP n z G) {c : Nat} (h : c < KK n z G) : kf n z G c < 32 ∧ fu n z G (kf n z G c) = true := by
  obtain ⟨h1, h2, h3⟩ := kth_ok h
  refine ⟨h1, ?_⟩
  rw [← sp_full ha]
  exact fx_sp h2
theorem kf_th (ha : aP n z G) {c : Nat} (h : c < KK n z G) : th n z (kf n z G c) = true := fu_th (kf_ok ha h).2
theorem fu_0 {r : Nat} (h : fu n z G r = true) : G r 0 = 0 := by
  unfold fu at h
  simp only [Bool.and_eq_true] at h
  exact of_decide_eq_true h.2
theorem fu_F (ha : aP n z G) {r : Nat} (h : fu n z G r = true) : ∃ c, FF n z G r = some c ∧ c < KK n z G := by
  obtain ⟨t1, t2, t3⟩ := TC_ok ha (full_31 n)
  have hs : sp n z G (full n) r = true := by rw [sp_full ha]; exact h
  have hr := sp_lt hs ha.1
  have e := t2 r hr
  unfold stp at e
  rw [if_pos hs] at e
  have e1 : FF n z G r = some (cs n z G (full n) (TC n z G (full n)).1 r) := congrArg Prod.fst e
  exact ⟨_, e1, FF_K ha r hr _ e1⟩
/-- the class has studied the whole paper -/
def dF (n : Nat) (z : Nat → Nat) (G : Nat → Nat → Nat) (cs0 av dd : Int32) (ca fs fb mb nb ra : Nat → Int32) : Prop :=
  cs0 = nI (KK n z G) ∧ (∀ c, c < KK n z G → fs c = nI (kf n z G c)) ∧ (∀ c, c < KK n z G → ∀ b, b < 32 → bt (mb c) b = (fu n z G b && decide (FF n z G b = some c))) ∧
  (∀ t, t < 6 → ∀ c, c < 32 → bt (nb t) c = (decide (c < KK n z G) && decide (G (kf n z G c) 1 = t))) ∧ (∀ q, q < 32 → th n z q = true → ca q = oJ (FF n z G q) ∧ ra q = nI (RR n z G q)) ∧
  (∀ t c, t < 8 → c < 32 → bt (fb t) c = fndU n z (full n) (FF n z G) t c 4) ∧ av = nI (fb_ct (fun q => decide (FF n z G q ≠ none)) 32) ∧ dd = nI (fb_ct (fun q => lf n z (full n) q && decide (FF n z G q = none)) 32)
theorem dT_dF (ha : aP n z G) (h : dT n z G (full n) pr cs0 ct av dd ca fs fb mb nb ra) : dF n z G cs0 av dd ca fs fb mb nb ra := by
  obtain ⟨t1, t2, t3⟩ := TC_ok ha (full_31 n)
  obtain ⟨h1, h2, h3, h4, h5, h6, h7, h8, h9⟩ := h
  refine ⟨h2, fun c hc => (h3 c hc).1, fun c hc b hb => ?_, h4, fun q hq ht => h5 q hq (by rw [lf_full ha]; exact ht), h6, ?_, h9⟩
  · rw [(h3 c hc).2 b hb, sp_full ha]
    cases hf : fu n z G b with
    | false => rfl
    | true =>
      rw [Bool.true_and, Bool.true_and, decide_eq_decide]
      exact mem_F ha.1 t1 t2 (by rw [sp_full ha]; exact hf) hc
  · rw [h8, RS_alive t2]; rfl
/-- the reference has -/
def mF (n : Nat) (z : Nat → Nat) (G : Nat → Nat → Nat) (c1 : Int32) (cf fi rn : Nat → Int32) : Prop := c1 = nI (KK n z G) ∧ (∀ c, c < KK n z G → cf c = nI (kf n z G c)) ∧ ∀ r, r < 32 → fi r = oI (FF n z G r) ∧ rn r = nI (RR n z G r)
theorem m_FA (ha : aP n z G) (hm : mP n z G p) (hN : 2000 ≤ N) (c0 l0 : Int32) (cf0 fi0 lb0 rn0 : Nat → Int32) :
    ∃ (c1 l1 : Int32) (cf fi lb rn : Nat → Int32), f_X7_findAll N c0 l0 cf0 fi0 lb0 rn0 p = some (c1, l1, cf, fi, lb, rn) ∧ mF n z G c1 cf fi rn := by
  obtain ⟨c1, l1, cf, fi, lb, rn, a1, a2, a3⟩ := m_findAll ha hm hN c0 l0 cf0 fi0 lb0 rn0
  exact ⟨c1, l1, cf, fi, lb, rn, a1, a2.1, a2.2, a3⟩
theorem x_mem (h : dF n z G cs0 av dd ca fs fb mb nb ra) {c b : Nat} (hc : c < KK n z G) (hb : b < 32) : f_X4_isMember cs0 mb (nI c) (nI b) = some (b1 (fu n z G b && decide (FF n z G b = some c))) := by
  have hk := KK_le (n := n) (z := z) (G := G)
  unfold f_X4_isMember f_X4_membersOf
  rw [h.1, if_neg (nI_pos (by omega)), if_neg (nI_ge hc (by omega)), if_neg (show ¬ (32 : Int32) ≤ nI c from nI_ge (b := 32) (by omega) (by omega)), e_rd _ _ (by omega) (by omega), e_b1]
  simp only [q_is _ hb, h.2.2.1 c hc b hb]
  cases fu n z G b && decide (FF n z G b = some c) <;> simp [b1]
theorem x_fc (ha : aP n z G) (hc : cP n z G (nI n) sz ci) (h : dF n z G cs0 av dd ca fs fb mb nb ra) {c : Nat} (hk : c < KK n z G) : f_X4_firstCite cs0 fs ci (nI c) = some (lN (en (G (kf n z G c)))) := by
  have hK := KK_le (n := n) (z := z) (G := G)
  unfold f_X4_firstCite
  rw [h.1, if_neg (nI_pos (by omega)), if_neg (nI_ge hk (by omega)), if_neg (show ¬ (32 : Int32) ≤ nI c from nI_ge (b := 32) (by omega) (by omega)), e_rd _ _ (by omega) (by omega), h.2.1 c hk, x_cite (kf_ok ha hk).1, e_b1, cP_c hc (kf_th ha hk)]
theorem m_cf (ha : aP n z G) (hm : mP n z G p) (h : mF n z G c1 cf fi rn) {c i : Nat} (hk : c < KK n z G) (hi : i < 8) {β : Type} (k : Int32 → Option β) : pn_rd 32 cf (nI c) (fun w => pn_bd1 (f_X7_ref p w (nI i)) k) = k (nI (G (kf n z G c) i)) := by
  have hK := KK_le (n := n) (z := z) (G := G)
  rw [e_rd _ _ (by omega) (by omega), h.2.1 c hk, m_refT ha hm (kf_th ha hk) hi, e_b1]
end
