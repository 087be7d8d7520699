/-! states that agree but for some numbers -/
def Ag (pi pa pb : Nat → Bool) (σ τ : St) : Prop := (∀ k, pi k = true → gI τ k = gI σ k) ∧ (∀ k, pa k = true → gA τ k = gA σ k) ∧ (∀ k, pb k = true → gB τ k = gB σ k)
theorem Ag.rf {pi pa pb : Nat → Bool} (σ : St) : Ag pi pa pb σ σ := ⟨fun _ _ => rfl, fun _ _ => rfl, fun _ _ => rfl⟩
theorem Ag.tr {pi pa pb : Nat → Bool} {σ τ ρ : St} (h : Ag pi pa pb σ τ) (g : Ag pi pa pb τ ρ) : Ag pi pa pb σ ρ := ⟨fun k hk => (g.1 k hk).trans (h.1 k hk), fun k hk => (g.2.1 k hk).trans (h.2.1 k hk), fun k hk => (g.2.2 k hk).trans (h.2.2 k hk)⟩
theorem Ag.mono {pi pa pb qi qa qb : Nat → Bool} {σ τ : St} (h : Ag pi pa pb σ τ) (hi : ∀ k, qi k = true → pi k = true) (ha : ∀ k, qa k = true → pa k = true) (hb : ∀ k, qb k = true → pb k = true) : Ag qi qa qb σ τ := ⟨fun k hk => h.1 k (hi k hk), fun k hk => h.2.1 k (ha k hk), fun k hk => h.2.2 k (hb k hk)⟩
theorem Ag.uI {pi pa pb : Nat → Bool} {σ τ : St} {k : Nat} {v : Int32} (h : Ag pi pa pb σ τ) (hk : pi k = false) : Ag pi pa pb σ (uI τ k v) := by
  refine ⟨fun j hj => ?_, h.2.1, h.2.2⟩
  rw [gI_uI, if_neg (fun e => by rw [e, hk] at hj; exact absurd hj (by decide))]; exact h.1 j hj
theorem Ag.uA {pi pa pb : Nat → Bool} {σ τ : St} {k i : Nat} {v : Int32} (h : Ag pi pa pb σ τ) (hk : pa k = false) : Ag pi pa pb σ (uA τ k i v) := by
  refine ⟨h.1, fun j hj => ?_, h.2.2⟩
  rw [gA_uA, if_neg (fun e => by rw [e, hk] at hj; exact absurd hj (by decide))]; exact h.2.1 j hj
theorem Ag.uB {pi pa pb : Nat → Bool} {σ τ : St} {k i : Nat} {v : Int64} (h : Ag pi pa pb σ τ) (hk : pb k = false) : Ag pi pa pb σ (uB τ k i v) := by
  refine ⟨h.1, h.2.1, fun j hj => ?_⟩
  rw [gB_uB, if_neg (fun e => by rw [e, hk] at hj; exact absurd hj (by decide))]; exact h.2.2 j hj
theorem Ag.uJ {pi pa pb : Nat → Bool} {σ τ : St} {k : Nat} {v : Int64} (h : Ag pi pa pb σ τ) : Ag pi pa pb σ (uJ τ k v) := h
def pT (_ : Nat) : Bool := true
def sI (k : Nat) : Bool := k != 3 && k != 4 && k != 11 && k != 13 && k != 30
def sA (k : Nat) : Bool := k != 1 && k != 5
def sB (k : Nat) : Bool := k != 0 && k != 1 && k != 4 && k != 5 && k != 6 && k != 7 && k != 12
def dA (k : Nat) : Bool := k != 1 && k != 5 && k != 14 && k != 24 && k != 15 && k != 25
def a14 (k : Nat) : Bool := k != 14
def a24 (k : Nat) : Bool := k != 24
def a15 (k : Nat) : Bool := k != 15
def a25 (k : Nat) : Bool := k != 25
def a23 (k : Nat) : Bool := k != 2 && k != 3
def a78 (k : Nat) : Bool := k != 27 && k != 28
theorem ne_b {k j : Nat} (h : (k != j) = true) : k ≠ j := by simpa using h
/-- the rows' dust and steps may be new -/
theorem Rel.agD {k : Nat} {σ τ : St} (h : Rel k σ) (g : Ag sI dA sB σ τ) (hs : Safe τ)
    (hd : ∀ i : Nat, (i : Int) < (gI σ 2).toInt → gA τ 14 i = gA τ 24 i ∧ 0 ≤ (gA τ 14 i).toInt ∧ (gA τ 14 i).toInt ≤ 1000)
    (he : ∀ i : Nat, (i : Int) < (gI σ 2).toInt → gA τ 15 i = gA τ 25 i) : Rel k τ := by
  obtain ⟨gi, ga, gb⟩ := g
  have i2 := gi 2 rfl
  have i20 := gi 20 rfl
  obtain ⟨h1, ⟨q2, q3⟩, h3, h4, h5, h6, h7, h8⟩ := h
  refine ⟨hs, ⟨?_, ?_⟩, ?_, ?_, ?_, ?_, ?_, ?_⟩
  · unfold cCnt; rw [i2, i20]; exact q2
  · intro i hi
    rw [i2] at hi
    obtain ⟨⟨r1, r2, r3, r4, r5, r6, r7⟩, s1, s2, s3, s4, s5, s6⟩ := q3 i hi
    obtain ⟨d1, d2⟩ := hd i hi
    unfold RowEq RowOk
    rw [ga 10 rfl, ga 11 rfl, ga 12 rfl, ga 13 rfl, ga 16 rfl, ga 20 rfl, ga 21 rfl, ga 22 rfl, ga 23 rfl, ga 26 rfl]
    exact ⟨⟨r1, r2, r3, r4, d1, he i hi, r7⟩, s1, s2, s3, s4, d2, s6⟩
  · unfold cSky; rw [ga 2 rfl, ga 3 rfl, ga 27 rfl, ga 28 rfl]; exact h3
  · unfold cCeil cWind cCln cLim; rw [ga 4 rfl, ga 31 rfl, ga 6 rfl, ga 29 rfl, ga 7 rfl, ga 30 rfl, gi 5 rfl, gi 21 rfl]; exact h4
  · unfold cNh cLt cLost cStow cBeg cSta cBook cAll
    rw [gi 0 rfl, gi 22 rfl, gi 1 rfl, gi 26 rfl, gi 24 rfl, gi 6 rfl, gi 7 rfl, gi 23 rfl, gi 8 rfl, gi 25 rfl, gi 9 rfl, gi 27 rfl, gi 10 rfl, gb 2 rfl, gb 10 rfl, gb 3 rfl, gb 11 rfl]; exact h5
  · unfold cTape; rw [gi 12 rfl, gi 28 rfl, ga 8 rfl, ga 32 rfl]; exact h6
  · unfold cFnd; rw [ga 0 rfl, ga 33 rfl]; exact h7
  · unfold cTry; rw [gi 29 rfl]; exact h8
/-- only scratch is new -/
theorem Rel.ag {k : Nat} {σ τ : St} (h : Rel k σ) (g : Ag sI sA sB σ τ) (hs : Safe τ) : Rel k τ := by
  refine h.agD (g.mono (fun _ h => h) (fun k hk => ?_) (fun _ h => h)) hs (fun i hi => ?_) (fun i hi => ?_)
  · unfold dA at hk; unfold sA
    simp only [Bool.and_eq_true] at hk ⊢
    exact ⟨hk.1.1.1.1.1, hk.1.1.1.1.2⟩
  · obtain ⟨⟨r1, r2, r3, r4, r5, r6, r7⟩, s1, s2, s3, s4, s5, s6⟩ := h.2.1.2 i hi
    rw [g.2.1 14 rfl, g.2.1 24 rfl]; exact ⟨r5, s5⟩
  · obtain ⟨⟨r1, r2, r3, r4, r5, r6, r7⟩, s1, s2, s3, s4, s5, s6⟩ := h.2.1.2 i hi
    rw [g.2.1 15 rfl, g.2.1 25 rfl]; exact r6
/-! a new row -/
def nR (σ : St) (j : Nat) (a1 a2 a3 a4 v : Int32) : St := uA (uA (uA (uA (uA (uA (uA σ 10 j a1) 11 j a2) 12 j a3) 13 j a4) 14 j 0) 15 j v) 16 j (-1)
def nM (σ : St) (j : Nat) (a1 a2 a3 a4 v : Int32) : St := uA (uA (uA (uA (uA (uA (uA σ 20 j a1) 21 j a2) 22 j a3) 23 j a4) 24 j 0) 25 j v) 26 j (-1)
theorem begin_eq (σ : St) (j : Nat) (a1 a2 a3 a4 a5 : Int32) : f3_begin σ j a1 a2 a3 a4 a5 = nR σ j a1 a2 a3 a4 (if a1 = 1 then a5 else 0) := by
  unfold f3_begin nR
  split <;> rfl
set_option maxHeartbeats 4000000 in
theorem rowF_eq (σ : St) (a1 a2 a3 a4 a5 : Int32) : f10_row_F σ a1 a2 a3 a4 a5 = (gI σ 20 + 1 - 1, uI (nM σ (Int32.toNatClampNeg (gI σ 20)) a1 a2 a3 a4 (if a1 = 1 then a5 else 0)) 20 (gI σ 20 + 1)) := by
  unfold f10_row_F
  by_cases c : a1 = 1
  · rw [if_pos c, if_pos c]; rfl
  · rw [if_neg c, if_neg c]; rfl
theorem new_Rel {k : Nat} {σ : St} {j : Nat} {a1 a2 a3 a4 v : Int32} (h : Rel k σ) (hj : (j : Int) = (gI σ 2).toInt) (hc : (gI σ 2).toInt < 10) (w1 : 0 ≤ a1.toInt ∧ a1.toInt ≤ 2) (w2 : 0 ≤ a2.toInt ∧ a2.toInt ≤ 10000) (w3 : -1000 ≤ a3.toInt ∧ a3.toInt ≤ 1000) (w4 : 10 ≤ a4.toInt ∧ a4.toInt ≤ 400) (wv : -12 ≤ v.toInt ∧ v.toInt ≤ 12) :
    Safe (uI (nR σ j a1 a2 a3 a4 v) 2 (gI σ 2 + 1)) ∧ Rel k (uI (nM (uI (nR σ j a1 a2 a3 a4 v) 2 (gI σ 2 + 1)) j a1 a2 a3 a4 v) 20 (gI σ 20 + 1)) := by
  have e1 : (gI σ 2 + 1).toInt = (gI σ 2).toInt + 1 := i_add1 (b := 10) hc (by omega)
  have hc0 := h.1.cnt
  have hs1 : Safe (uI (nR σ j a1 a2 a3 a4 v) 2 (gI σ 2 + 1)) := sf_I2 (by omega) (sf_A (by decide) (sf_A15 wv (sf_A (by decide) (sf_A (by decide) (sf_A (by decide) (sf_A (by decide) (sf_A (by decide) h.1)))))))
  refine ⟨hs1, ?_⟩
  obtain ⟨h1, ⟨q2, q3⟩, h3⟩ := h
  have q20 : gI σ 2 = gI σ 20 := q2
  have hs2 : Safe (uI (nM (uI (nR σ j a1 a2 a3 a4 v) 2 (gI σ 2 + 1)) j a1 a2 a3 a4 v) 20 (gI σ 20 + 1)) := sf_I20 (by rw [← q20]; omega) (sf_A (by decide) (sf_A (by decide) (sf_A (by decide) (sf_A (by decide) (sf_A (by decide) (sf_A (by decide) (sf_A (by decide) hs1)))))))
  refine ⟨hs2, ⟨?_, fun i hi => ?_⟩, h3⟩
  · show gI σ 2 + 1 = gI σ 20 + 1
    rw [q20]
  · have hi2 : (i : Int) < (gI σ 2 + 1).toInt := hi
    show (upd (gA σ 10) j a1 i = upd (gA σ 20) j a1 i ∧ upd (gA σ 11) j a2 i = upd (gA σ 21) j a2 i ∧ upd (gA σ 12) j a3 i = upd (gA σ 22) j a3 i ∧ upd (gA σ 13) j a4 i = upd (gA σ 23) j a4 i ∧ upd (gA σ 14) j 0 i = upd (gA σ 24) j 0 i ∧ upd (gA σ 15) j v i = upd (gA σ 25) j v i ∧ upd (gA σ 16) j (-1) i = upd (gA σ 26) j (-1) i) ∧
      ((0 ≤ (upd (gA σ 10) j a1 i).toInt ∧ (upd (gA σ 10) j a1 i).toInt ≤ 2) ∧ (0 ≤ (upd (gA σ 11) j a2 i).toInt ∧ (upd (gA σ 11) j a2 i).toInt ≤ 10000) ∧ (-1000 ≤ (upd (gA σ 12) j a3 i).toInt ∧ (upd (gA σ 12) j a3 i).toInt ≤ 1000) ∧ (10 ≤ (upd (gA σ 13) j a4 i).toInt ∧ (upd (gA σ 13) j a4 i).toInt ≤ 400) ∧ (0 ≤ (upd (gA σ 14) j 0 i).toInt ∧ (upd (gA σ 14) j 0 i).toInt ≤ 1000) ∧ (-1 ≤ (upd (gA σ 16) j (-1) i).toInt ∧ (upd (gA σ 16) j (-1) i).toInt ≤ 3))
    by_cases e : i = j
    · subst e
      simp only [upd_at]
      refine ⟨⟨trivial, trivial, trivial, trivial, trivial, trivial, trivial⟩, w1, w2, w3, w4, ?_, ?_⟩
      · rw [lit_0]; omega
      · rw [lit_m1]; omega
    · simp only [upd_ne e]; exact q3 i (by omega)
theorem above_eq {k : Nat} {σ : St} (h : Rel k σ) (a2 : Int32) (hb : ¬ f0_isAboveLast σ a2 = 0) : gI σ 20 ≤ 0 ∨ (¬ gI σ 20 ≤ 0 ∧ gA σ 21 (Int32.toNatClampNeg (gI σ 20 - 1)) < a2) := by
  have e20 : gI σ 2 = gI σ 20 := h.2.1.1
  unfold f0_isAboveLast at hb
  split at hb
  · rename_i c; rw [e20] at c; exact Or.inl c
  · rename_i c
    have c2 := c
    rw [e20] at c2
    have hc := h.1.cnt
    have t := t_nle c rfl lit_0
    have hp := pred_in (N := 10) t hc.2
    have e3 := toN hp
    rw [i_sub (by rw [lit_1]; omega) (by rw [lit_1]; omega), lit_1] at e3
    have hr := (h.2.1.2 _ (show ((Int32.toNatClampNeg (gI σ 2 - 1) : Nat) : Int) < (gI σ 2).toInt by omega)).1.2.1
    split at hb
    · exact absurd rfl hb
    · rename_i c3
      refine Or.inr ⟨c2, ?_⟩
      rw [← e20, ← hr, i_lt]
      rw [i_le] at c3; omega
theorem nabove_eq {k : Nat} {σ : St} (h : Rel k σ) (a2 : Int32) (hb : f0_isAboveLast σ a2 = 0) : ¬ gI σ 20 ≤ 0 ∧ ¬ gA σ 21 (Int32.toNatClampNeg (gI σ 20 - 1)) < a2 := by
  have e20 : gI σ 2 = gI σ 20 := h.2.1.1
  unfold f0_isAboveLast at hb
  split at hb
  · exact absurd hb (by decide)
  · rename_i c
    have c2 := c
    rw [e20] at c2
    have hc := h.1.cnt
    have t := t_nle c rfl lit_0
    have hp := pred_in (N := 10) t hc.2
    have e3 := toN hp
    rw [i_sub (by rw [lit_1]; omega) (by rw [lit_1]; omega), lit_1] at e3
    have hr := (h.2.1.2 _ (show ((Int32.toNatClampNeg (gI σ 2 - 1) : Nat) : Int) < (gI σ 2).toInt by omega)).1.2.1
    split at hb
    · rename_i c3
      refine ⟨c2, ?_⟩
      rw [← e20, ← hr, i_lt]
      rw [i_le] at c3; omega
    · exact absurd hb (by decide)
theorem pu_row_B (k : Nat) (σ : St) (a1 a2 a3 a4 a5 : Int32) (h : Rel k σ) (w1 : 0 ≤ a1.toInt ∧ a1.toInt ≤ 2) (w2 : 0 ≤ a2.toInt ∧ a2.toInt ≤ 10000) (w3 : -1000 ≤ a3.toInt ∧ a3.toInt ≤ 1000) (w4 : 10 ≤ a4.toInt ∧ a4.toInt ≤ 400) (w5 : a1 = 1 → -12 ≤ a5.toInt ∧ a5.toInt ≤ 12) : Safe (f9_row_B σ a1 a2 a3 a4 a5).2 ∧ (f9_row_B σ a1 a2 a3 a4 a5).1 = (f10_row_B (f9_row_B σ a1 a2 a3 a4 a5).2 a1 a2 a3 a4 a5).1 ∧ Rel (k + 1) (f10_row_B (f9_row_B σ a1 a2 a3 a4 a5).2 a1 a2 a3 a4 a5).2 := by
  have e20 : gI σ 2 = gI σ 20 := h.2.1.1
  have hc := h.1.cnt
  by_cases c1 : f0_isAboveLast σ a2 = 0
  · obtain ⟨n1, n2⟩ := nabove_eq h a2 c1
    exact fin h f5 (fun τ => f10_row_B τ a1 a2 a3 a4 a5) (by unfold f9_row_B; exact if_pos c1) (by show f10_row_B _ _ _ _ _ _ = _; unfold f10_row_B; exact (if_neg n1).trans (if_neg n2))
  · have hD : ∀ τ : St, gI τ 20 = gI σ 20 → gA τ 21 = gA σ 21 → f10_row_B τ a1 a2 a3 a4 a5 = f10_row_D τ a1 a2 a3 a4 a5 := fun τ g1 g2 => by
      unfold f10_row_B
      rw [g1, g2]
      rcases above_eq h a2 c1 with q | ⟨q1, q2⟩
      · rw [if_pos q]
      · rw [if_neg q1, if_pos q2]
    by_cases c2 : gI σ 2 < 10
    · have t := t_lt c2 rfl lit_10
      have wv : -12 ≤ (if a1 = 1 then a5 else 0).toInt ∧ (if a1 = 1 then a5 else 0).toInt ≤ 12 := by
        split
        · rename_i c; exact w5 c
        · rw [lit_0]; omega
      have hj : ((Int32.toNatClampNeg (gI σ 2) : Nat) : Int) = (gI σ 2).toInt := by simp only [Int32.toNatClampNeg]; omega
      obtain ⟨n1, n2⟩ := new_Rel h.up hj t w1 w2 w3 w4 wv
      generalize hjj : Int32.toNatClampNeg (gI σ 2) = j at n1 n2
      refine okk (fun τ => f10_row_B τ a1 a2 a3 a4 a5) (v := gI σ 2 + 1 - 1) (w := gI σ 20 + 1 - 1) (τ := uI (nR σ j a1 a2 a3 a4 (if a1 = 1 then a5 else 0)) 2 (gI σ 2 + 1)) ?_ ?_ n1 (by rw [e20]) n2
      · unfold f9_row_B; rw [if_neg c1, if_pos c2, begin_eq, hjj]; rfl
      · show f10_row_B _ _ _ _ _ _ = _
        generalize hτ : uI (nR σ j a1 a2 a3 a4 (if a1 = 1 then a5 else 0)) 2 (gI σ 2 + 1) = τ
        have g1 : gI τ 20 = gI σ 20 := by rw [← hτ]; rfl
        have g2 : gA τ 21 = gA σ 21 := by rw [← hτ]; rfl
        rw [hD τ g1 g2]
        unfold f10_row_D
        rw [g1, if_neg (fun q => by rw [e20, q, lit_10] at t; omega), rowF_eq, g1, ← e20, hjj]
    · have z : gI σ 20 = 10 := by
        have t := t_nlt c2 rfl lit_10
        rw [← e20, i_eq, lit_10]; omega
      refine fin h f4 (fun τ => f10_row_B τ a1 a2 a3 a4 a5) (by unfold f9_row_B; exact (if_neg c1).trans (if_neg c2)) ?_
      show f10_row_B _ _ _ _ _ _ = _
      rw [hD (f9_answer σ (-1000000004)).2 rfl rfl]
      unfold f10_row_D
      exact if_pos z
theorem pu_row (k : Nat) (σ : St) (a1 a2 a3 a4 a5 : Int32) (h : Rel k σ) : Safe (f9_row σ a1 a2 a3 a4 a5).2 ∧ (f9_row σ a1 a2 a3 a4 a5).1 = (f10_row (f9_row σ a1 a2 a3 a4 a5).2 a1 a2 a3 a4 a5).1 ∧ Rel (k + 1) (f10_row (f9_row σ a1 a2 a3 a4 a5).2 a1 a2 a3 a4 a5).2 := by
  by_cases c1 : f9_isKind a1 = 0
  · exact fin h f1 (fun τ => f10_row τ a1 a2 a3 a4 a5) (by unfold f9_row; exact if_pos c1) (by show f10_row _ _ _ _ _ _ = _; unfold f10_row; exact if_pos (show f10_in a1 0 2 = 0 from c1))
  have n1 : ¬ f10_in a1 0 2 = 0 := c1
  by_cases c3 : f9_isWithin a3 (-1000) 1000 = 0
  · exact fin h f1 (fun τ => f10_row τ a1 a2 a3 a4 a5) (by unfold f9_row; exact (if_neg c1).trans (if_pos c3)) (by show f10_row _ _ _ _ _ _ = _; unfold f10_row; exact (if_neg n1).trans (if_pos (show f10_in a3 (-1000) 1000 = 0 from c3)))
  have n3 : ¬ f10_in a3 (-1000) 1000 = 0 := c3
  by_cases c4 : f9_isWithin a4 10 400 = 0
  · exact fin h f1 (fun τ => f10_row τ a1 a2 a3 a4 a5) (by unfold f9_row; exact (if_neg c1).trans ((if_neg c3).trans (if_pos c4))) (by show f10_row _ _ _ _ _ _ = _; unfold f10_row; exact (if_neg n1).trans ((if_neg n3).trans (if_pos (show f10_in a4 10 400 = 0 from c4))))
  have n4 : ¬ f10_in a4 10 400 = 0 := c4
  have w1 := wi_t c1
  have w3 := wi_t c3
  have w4 := wi_t c4
  rw [lit_0, lit_2] at w1
  rw [lit_m1000, lit_1000] at w3
  rw [lit_10, lit_400] at w4
  by_cases c5 : a1 = 1
  · by_cases c6 : f9_isStep a5 = 0
    · exact fin h f1 (fun τ => f10_row τ a1 a2 a3 a4 a5) (by unfold f9_row; exact (if_neg c1).trans ((if_neg c3).trans ((if_neg c4).trans ((if_pos c5).trans (if_pos c6))))) (by show f10_row _ _ _ _ _ _ = _; unfold f10_row; exact (if_neg n1).trans ((if_neg n3).trans ((if_neg n4).trans ((if_pos c5).trans (if_pos (show f10_isStep a5 = 0 from c6))))))
    have n6 : ¬ f10_isStep a5 = 0 := c6
    by_cases c2 : f9_isWithin a2 0 10000 = 0
    · exact fin h f1 (fun τ => f10_row τ a1 a2 a3 a4 a5) (by unfold f9_row; exact (if_neg c1).trans ((if_neg c3).trans ((if_neg c4).trans ((if_pos c5).trans ((if_neg c6).trans (if_pos c2)))))) (by show f10_row _ _ _ _ _ _ = _; unfold f10_row; exact (if_neg n1).trans ((if_neg n3).trans ((if_neg n4).trans ((if_pos c5).trans ((if_neg n6).trans (if_pos (show f10_in a2 0 10000 = 0 from c2)))))))
    have n2 : ¬ f10_in a2 0 10000 = 0 := c2
    have w2 := wi_t c2
    rw [lit_0, lit_10000] at w2
    have e9 : f9_row σ a1 a2 a3 a4 a5 = f9_row_B σ a1 a2 a3 a4 a5 := by unfold f9_row; rw [if_neg c1, if_neg c3, if_neg c4, if_pos c5, if_neg c6, if_neg c2]
    have e10 : ∀ τ, f10_row τ a1 a2 a3 a4 a5 = f10_row_B τ a1 a2 a3 a4 a5 := fun τ => by unfold f10_row; rw [if_neg n1, if_neg n3, if_neg n4, if_pos c5, if_neg n6, if_neg n2]
    rw [e9, e10]
    exact pu_row_B k σ a1 a2 a3 a4 a5 h w1 w2 w3 w4 (fun _ => isStep_rg c6)
  · by_cases c2 : f9_isWithin a2 0 10000 = 0
    · exact fin h f1 (fun τ => f10_row τ a1 a2 a3 a4 a5) (by unfold f9_row; exact (if_neg c1).trans ((if_neg c3).trans ((if_neg c4).trans ((if_neg c5).trans (if_pos c2))))) (by show f10_row _ _ _ _ _ _ = _; unfold f10_row; exact (if_neg n1).trans ((if_neg n3).trans ((if_neg n4).trans ((if_neg c5).trans (if_pos (show f10_in a2 0 10000 = 0 from c2))))))
    have n2 : ¬ f10_in a2 0 10000 = 0 := c2
    have w2 := wi_t c2
    rw [lit_0, lit_10000] at w2
    have e9 : f9_row σ a1 a2 a3 a4 a5 = f9_row_B σ a1 a2 a3 a4 a5 := by unfold f9_row; rw [if_neg c1, if_neg c3, if_neg c4, if_neg c5, if_neg c2]
    have e10 : ∀ τ, f10_row τ a1 a2 a3 a4 a5 = f10_row_B τ a1 a2 a3 a4 a5 := fun τ => by unfold f10_row; rw [if_neg n1, if_neg n3, if_neg n4, if_neg c5, if_neg n2]
    rw [e9, e10]
    exact pu_row_B k σ a1 a2 a3 a4 a5 h w1 w2 w3 w4 (fun q => absurd q c5)
