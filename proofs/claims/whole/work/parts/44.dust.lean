theorem shr_toInt (a : Int32) {j : Nat} (hj : j < 32) : (a >>> (nI j &&& 31)).toInt = a.toInt / 2 ^ j := by
  have e : ∀ j : Nat, j < 32 → ((nI j &&& 31).toBitVec.smod 32).toNat = j := by decide +kernel
  have h1 : (a >>> (nI j &&& 31)).toBitVec = a.toBitVec.sshiftRight j := by
    show BitVec.sshiftRight' a.toBitVec ((nI j &&& 31).toBitVec.smod 32) = _
    rw [BitVec.sshiftRight_eq', e j hj]
  show (a >>> (nI j &&& 31)).toBitVec.toInt = _
  rw [h1, BitVec.toInt_sshiftRight, Int.shiftRight_eq_div_pow]
  simp
theorem shl_val {j : Nat} (hj : j < 11) : ((1 : Int32) <<< (nI j &&& 31)).toInt = 2 ^ j := by
  have : ∀ j : Nat, j < 11 → ((1 : Int32) <<< (nI j &&& 31)).toInt = 2 ^ j := by decide +kernel
  exact this j hj
/-- sets of rows only -/
theorem set_ok {a x : Int32} (h : 0 ≤ x.toInt ∧ x.toInt ≤ 10) (ha : 0 ≤ a.toInt) : a >>> (x &&& 31) = 0 ↔ ¬ ((1 : Int32) <<< (x &&& 31)) - 1 < a := by
  obtain ⟨j, hj, rfl⟩ := vp_in_of (vin h.1 (by omega : x.toInt < (11 : Nat))) (by decide)
  have e1 := shr_toInt a (j := j) (by omega)
  have e2 := shl_val hj
  have e4 : (2 : Int) ^ j ≤ 1024 := by
    have : ∀ j : Nat, j < 11 → (2 : Int) ^ j ≤ 1024 := by decide
    exact this j hj
  have e5 : (1 : Int) ≤ 2 ^ j := by
    have : ∀ j : Nat, j < 11 → (1 : Int) ≤ 2 ^ j := by decide
    exact this j hj
  have e3 : (((1 : Int32) <<< (nI j &&& 31)) - 1).toInt = 2 ^ j - 1 := by rw [i_sub (by rw [e2, lit_1]; omega) (by rw [e2, lit_1]; omega), e2, lit_1]
  rw [i_eq, i_lt, e1, e3, lit_0]
  generalize (2 : Int) ^ j = p at *
  constructor
  · intro q g
    have : 1 ≤ a.toInt / p := by
      rw [Int.le_ediv_iff_mul_le (by omega)]; omega
    omega
  · intro q
    exact Int.ediv_eq_zero_of_lt ha (by omega)
theorem dA14 : ∀ k, dA k = true → a14 k = true := fun k hk => by unfold dA at hk; unfold a14; simp only [Bool.and_eq_true] at hk; exact hk.1.1.1.2
theorem dA24 : ∀ k, dA k = true → a24 k = true := fun k hk => by unfold dA at hk; unfold a24; simp only [Bool.and_eq_true] at hk; exact hk.1.1.2
theorem dA15 : ∀ k, dA k = true → a15 k = true := fun k hk => by unfold dA at hk; unfold a15; simp only [Bool.and_eq_true] at hk; exact hk.1.2
theorem dA25 : ∀ k, dA k = true → a25 k = true := fun k hk => by unfold dA at hk; unfold a25; simp only [Bool.and_eq_true] at hk; exact hk.2
/-- a row's number in a loop -/
theorem lp_ix {σ : St} (hc : (gI σ 2).toInt ≤ 10) {j : Int32} (hj : 0 ≤ j.toInt) (c : ¬ gI σ 2 ≤ j) : ((Int32.toNatClampNeg j : Nat) : Int) = j.toInt ∧ j.toInt < (gI σ 2).toInt ∧ (j + 1).toInt = j.toInt + 1 := by
  have t := t_nle c rfl rfl
  exact ⟨by simp only [Int32.toNatClampNeg]; omega, t, i_add1 (b := 10) (by omega) (by omega)⟩
def dEq (c : Int) (σ τ : St) : Prop := ∀ i : Nat, (i : Int) < c → gA σ 14 i = gA τ 24 i ∧ 0 ≤ (gA σ 14 i).toInt ∧ (gA σ 14 i).toInt ≤ 1000
theorem dEq.put {c : Int} {σ τ : St} (h : dEq c σ τ) (j : Nat) {v : Int32} (hv : 0 ≤ v.toInt ∧ v.toInt ≤ 1000) : dEq c (uA σ 14 j v) (uA τ 24 j v) := by
  intro i hi
  show upd (gA σ 14) j v i = upd (gA τ 24) j v i ∧ 0 ≤ (upd (gA σ 14) j v i).toInt ∧ (upd (gA σ 14) j v i).toInt ≤ 1000
  by_cases e : i = j
  · subst e; rw [upd_at, upd_at]; exact ⟨rfl, hv⟩
  · rw [upd_ne e, upd_ne e]; exact h i hi
theorem lose_eq (σ : St) (i : Nat) : f3_loseDust σ i = (if gA σ 14 i ≤ 0 then 0 else 1, uA σ 14 i 0) := by
  unfold f3_loseDust; split <;> rfl
/-- both wash -/
theorem wash_two (a : Int32) : ∀ (n : Nat) (σ τ : St) (w j : Int32), (gI σ 2 = gI τ 20) → (gI σ 2).toInt ≤ 10 → dEq (gI σ 2).toInt σ τ → 0 ≤ j.toInt →
    (f0_washRows_L a n σ w j).1 = (f10_wash_L a n τ w j).1 ∧ dEq (gI σ 2).toInt (f0_washRows_L a n σ w j).2 (f10_wash_L a n τ w j).2 ∧ Ag pT a14 pT σ (f0_washRows_L a n σ w j).2 ∧ Ag pT a24 pT τ (f10_wash_L a n τ w j).2
  | 0, σ, τ, w, j, _, _, h, _ => ⟨rfl, h, Ag.rf _, Ag.rf _⟩
  | n + 1, σ, τ, w, j, e, hc, h, hj => by
    unfold f0_washRows_L f10_wash_L
    rw [← e]
    by_cases c : gI σ 2 ≤ j
    · rw [if_pos c, if_pos c]; exact ⟨rfl, h, Ag.rf _, Ag.rf _⟩
    rw [if_neg c, if_neg c]
    obtain ⟨x1, x2, x3⟩ := lp_ix hc hj c
    by_cases c2 : ((a >>> (j &&& 31)) &&& 1) = 1
    · rw [if_pos c2, if_pos c2, lose_eq]
      generalize Int32.toNatClampNeg j = i at x1
      have hd := h i (by omega)
      have hp := h.put i (v := 0) (by rw [lit_0]; omega)
      dsimp only
      rw [hd.1]
      by_cases c3 : gA τ 24 i ≤ 0
      · rw [if_pos c3, if_pos rfl, if_pos c3, show w + 0 = w from Int32.add_zero w]
        obtain ⟨y1, y2, y3, y4⟩ := wash_two a n (uA σ 14 i 0) (uA τ 24 i 0) w (j + 1) e hc hp (by omega)
        exact ⟨y1, y2, ((Ag.rf σ).uA rfl).tr y3, ((Ag.rf τ).uA rfl).tr y4⟩
      · rw [if_neg c3, if_neg (by decide), if_neg c3]
        obtain ⟨y1, y2, y3, y4⟩ := wash_two a n (uA σ 14 i 0) (uA τ 24 i 0) (w + 1) (j + 1) e hc hp (by omega)
        exact ⟨y1, y2, ((Ag.rf σ).uA rfl).tr y3, ((Ag.rf τ).uA rfl).tr y4⟩
    · rw [if_neg c2, if_neg c2]
      exact wash_two a n σ τ w (j + 1) e hc h (by omega)
theorem storm_two (a : Int32) (ha : 0 ≤ a.toInt ∧ a.toInt ≤ 1000) : ∀ (n : Nat) (σ τ : St) (w j : Int32), (gI σ 2 = gI τ 20) → (gI σ 2).toInt ≤ 10 → dEq (gI σ 2).toInt σ τ → 0 ≤ j.toInt →
    (f0_addDust_L a n σ w j).1 = (f10_storm_L a n τ w j).1 ∧ dEq (gI σ 2).toInt (f0_addDust_L a n σ w j).2 (f10_storm_L a n τ w j).2 ∧ Ag pT a14 pT σ (f0_addDust_L a n σ w j).2 ∧ Ag pT a24 pT τ (f10_storm_L a n τ w j).2
  | 0, σ, τ, w, j, _, _, h, _ => ⟨rfl, h, Ag.rf _, Ag.rf _⟩
  | n + 1, σ, τ, w, j, e, hc, h, hj => by
    unfold f0_addDust_L f10_storm_L
    rw [← e]
    by_cases c : gI σ 2 ≤ j
    · rw [if_pos c, if_pos c]; exact ⟨rfl, h, Ag.rf _, Ag.rf _⟩
    rw [if_neg c, if_neg c]
    obtain ⟨x1, x2, x3⟩ := lp_ix hc hj c
    generalize Int32.toNatClampNeg j = i at x1
    have hd := h i (by omega)
    have e3 : (gA τ 24 i + a).toInt = (gA τ 24 i).toInt + a.toInt := i_add (by rw [← hd.1]; omega) (by rw [← hd.1]; omega)
    have hd0 := hd.2
    rw [hd.1] at hd0 ⊢
    have ev : (if gA τ 24 i + a < 1000 then gA τ 24 i + a else 1000) = (if gA τ 24 i + a ≤ 1000 then gA τ 24 i + a else 1000) := by
      by_cases c3 : gA τ 24 i + a < 1000
      · rw [if_pos c3, if_pos (by rw [i_le]; rw [i_lt] at c3; omega)]
      · rw [if_neg c3]
        by_cases c4 : gA τ 24 i + a ≤ 1000
        · rw [if_pos c4, i_eq]; rw [i_lt] at c3; rw [i_le] at c4; omega
        · rw [if_neg c4]
    rw [ev]
    by_cases c4 : gA τ 24 i + a ≤ 1000
    · rw [if_pos c4, if_pos c4]
      have t := t_le c4 rfl lit_1000
      generalize gA τ 24 i + a = v at *
      have hp := h.put i (v := v) (by omega)
      have g1 : gA (uA σ 14 i v) 14 i = v := upd_at
      have g2 : gA (uA τ 24 i v) 24 i = v := upd_at
      rw [g1, g2]
      obtain ⟨y1, y2, y3, y4⟩ := storm_two a ha n (uA σ 14 i v) (uA τ 24 i v) (w + v) (j + 1) e hc hp (by omega)
      exact ⟨y1, y2, ((Ag.rf σ).uA rfl).tr y3, ((Ag.rf τ).uA rfl).tr y4⟩
    · rw [if_neg c4, if_neg c4]
      have hp := h.put i (v := 1000) (by rw [lit_1000]; omega)
      have g1 : gA (uA σ 14 i 1000) 14 i = 1000 := upd_at
      have g2 : gA (uA τ 24 i 1000) 24 i = 1000 := upd_at
      rw [g1, g2]
      obtain ⟨y1, y2, y3, y4⟩ := storm_two a ha n (uA σ 14 i 1000) (uA τ 24 i 1000) (w + 1000) (j + 1) e hc hp (by omega)
      exact ⟨y1, y2, ((Ag.rf σ).uA rfl).tr y3, ((Ag.rf τ).uA rfl).tr y4⟩
/-- after both loops over the rows' dust -/
theorem dust_Rel {k : Nat} {σ σ1 τ1 : St} (h : Rel k σ) (g1 : Ag pT a14 pT σ σ1) (g2 : Ag pT a24 pT σ1 τ1) (hs : Safe τ1) (hd : dEq (gI σ 2).toInt σ1 τ1) : Rel k τ1 := by
  have m1 : Ag sI dA sB σ σ1 := g1.mono (fun _ _ => rfl) dA14 (fun _ _ => rfl)
  have m2 : Ag sI dA sB σ1 τ1 := g2.mono (fun _ _ => rfl) dA24 (fun _ _ => rfl)
  refine h.agD (m1.tr m2) hs (fun i hi => ?_) (fun i hi => ?_)
  · rw [g2.2.1 14 rfl]; exact hd i hi
  · rw [g2.2.1 15 rfl, g1.2.1 15 rfl, g2.2.1 25 rfl, g1.2.1 25 rfl]; exact (h.2.1.2 i hi).1.2.2.2.2.2.1
theorem Rel.dEq {k : Nat} {σ τ : St} (h : Rel k σ) (e : gA τ 24 = gA σ 24) : dEq (gI σ 2).toInt σ τ := fun i hi => by
  obtain ⟨⟨r1, r2, r3, r4, r5, r6, r7⟩, s1, s2, s3, s4, s5, s6⟩ := h.2.1.2 i hi
  rw [e]; exact ⟨r5, s5⟩
theorem sX10_wash_L (a : Int32) : ∀ (n : Nat) (σ : St) (w j : Int32), Safe σ → Safe (f10_wash_L a n σ w j).2
  | 0, _, _, _, h => h
  | n + 1, σ, w, j, h => by
    unfold f10_wash_L
    repeat' split
    all_goals first | exact h | exact sX10_wash_L a n _ _ _ h | exact sX10_wash_L a n _ _ _ (sf_A (by decide) h)
theorem sX10_storm_L (a : Int32) : ∀ (n : Nat) (σ : St) (w j : Int32), Safe σ → Safe (f10_storm_L a n σ w j).2
  | 0, _, _, _, h => h
  | n + 1, σ, w, j, h => by
    unfold f10_storm_L
    repeat' split
    all_goals first | exact h | exact sX10_storm_L a n _ _ _ h | exact sX10_storm_L a n _ _ _ (sf_A (by decide) h)
theorem pu_storm (k : Nat) (σ : St) (a1 : Int32) (h : Rel k σ) : Safe (f9_storm σ a1).2 ∧ (f9_storm σ a1).1 = (f10_storm (f9_storm σ a1).2 a1).1 ∧ Rel (k + 1) (f10_storm (f9_storm σ a1).2 a1).2 := by
  by_cases c1 : f9_isWithin a1 0 1000 = 0
  · exact fin h f1 (fun τ => f10_storm τ a1) (by unfold f9_storm; exact if_pos c1) (by show f10_storm _ _ = _; unfold f10_storm; exact if_pos (show f10_in a1 0 1000 = 0 from c1))
  have n1 : ¬ f10_in a1 0 1000 = 0 := c1
  have w := wi_t c1
  rw [lit_0, lit_1000] at w
  have e9 : f9_storm σ a1 = f0_addDust_L a1 11 σ 0 0 := by unfold f9_storm; rw [if_neg c1]; rfl
  have e10 : ∀ τ, f10_storm τ a1 = f10_storm_L a1 11 τ 0 0 := fun τ => by unfold f10_storm; rw [if_neg n1]
  have hs1 : Safe (f0_addDust_L a1 11 σ 0 0).2 := sX0_addDust_L 11 σ 0 0 h.1
  rw [e9, e10]
  have g0 := storm_two a1 w 11 σ σ 0 0 h.2.1.1 h.1.cnt.2 (h.dEq rfl) (by rw [lit_0]; omega)
  obtain ⟨y1, y2, y3, y4⟩ := storm_two a1 w 11 σ (f0_addDust_L a1 11 σ 0 0).2 0 0 ((h.2.1.1 : gI σ 2 = gI σ 20).trans (g0.2.2.1.1 20 rfl).symm) h.1.cnt.2 (h.dEq (g0.2.2.1.2.1 24 rfl)) (by rw [lit_0]; omega)
  exact ⟨hs1, y1, dust_Rel h.up y3 y4 (sX10_storm_L a1 11 _ 0 0 hs1) y2⟩
theorem pu_wash (k : Nat) (σ : St) (a1 : Int32) (h : Rel k σ) : Safe (f9_wash σ a1).2 ∧ (f9_wash σ a1).1 = (f10_wash (f9_wash σ a1).2 a1).1 ∧ Rel (k + 1) (f10_wash (f9_wash σ a1).2 a1).2 := by
  have e20 : gI σ 2 = gI σ 20 := h.2.1.1
  by_cases c1 : a1 < 0
  · exact fin h f1 (fun τ => f10_wash τ a1) (by unfold f9_wash; exact if_pos c1) (by show f10_wash _ _ = _; unfold f10_wash; exact if_pos (show f10_in a1 0 (((1 : Int32) <<< ((gI σ 20) &&& 31)) - 1) = 0 by unfold f10_in; rw [if_pos c1]))
  have t := t_nlt c1 rfl lit_0
  have q := set_ok (a := a1) h.1.cnt t
  rw [e20] at q
  by_cases c2 : a1 >>> (gI σ 20 &&& 31) = 0
  · have n1 : ∀ τ : St, gI τ 20 = gI σ 20 → ¬ f10_in a1 0 (((1 : Int32) <<< ((gI τ 20) &&& 31)) - 1) = 0 := fun τ e => by
      rw [e]; unfold f10_in; rw [if_neg c1, if_neg (q.mp c2)]; decide
    have e9 : f9_wash σ a1 = f0_washRows_L a1 11 σ 0 0 := by unfold f9_wash; rw [if_neg c1, e20, if_pos c2]; rfl
    have e10 : ∀ τ : St, gI τ 20 = gI σ 20 → f10_wash τ a1 = f10_wash_L a1 11 τ 0 0 := fun τ e => by unfold f10_wash; rw [if_neg (n1 τ e)]
    have hs1 : Safe (f0_washRows_L a1 11 σ 0 0).2 := sX0_washRows_L 11 σ 0 0 h.1
    have g0 := wash_two a1 11 σ σ 0 0 h.2.1.1 h.1.cnt.2 (h.dEq rfl) (by rw [lit_0]; omega)
    rw [e9, e10 _ (g0.2.2.1.1 20 rfl)]
    obtain ⟨y1, y2, y3, y4⟩ := wash_two a1 11 σ (f0_washRows_L a1 11 σ 0 0).2 0 0 ((h.2.1.1 : gI σ 2 = gI σ 20).trans (g0.2.2.1.1 20 rfl).symm) h.1.cnt.2 (h.dEq (g0.2.2.1.2.1 24 rfl)) (by rw [lit_0]; omega)
    exact ⟨hs1, y1, dust_Rel h.up y3 y4 (sX10_wash_L a1 11 _ 0 0 hs1) y2⟩
  · have n2 : f10_in a1 0 (((1 : Int32) <<< ((gI σ 20) &&& 31)) - 1) = 0 := by
      unfold f10_in; rw [if_neg c1]
      exact if_pos (Classical.byContradiction (fun g => c2 (q.mpr g)))
    exact fin h f1 (fun τ => f10_wash τ a1) (by unfold f9_wash; rw [e20]; exact (if_neg c1).trans (if_neg c2)) (by show f10_wash _ _ = _; unfold f10_wash; exact if_pos n2)
