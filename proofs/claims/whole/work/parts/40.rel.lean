/-! the class's numbers beside the reference's -/
def RowEq (σ : St) (i : Nat) : Prop := gA σ 10 i = gA σ 20 i ∧ gA σ 11 i = gA σ 21 i ∧ gA σ 12 i = gA σ 22 i ∧ gA σ 13 i = gA σ 23 i ∧ gA σ 14 i = gA σ 24 i ∧ gA σ 15 i = gA σ 25 i ∧ gA σ 16 i = gA σ 26 i
def RowOk (σ : St) (i : Nat) : Prop := (0 ≤ (gA σ 10 i).toInt ∧ (gA σ 10 i).toInt ≤ 2) ∧ (0 ≤ (gA σ 11 i).toInt ∧ (gA σ 11 i).toInt ≤ 10000) ∧ (-1000 ≤ (gA σ 12 i).toInt ∧ (gA σ 12 i).toInt ≤ 1000) ∧ (10 ≤ (gA σ 13 i).toInt ∧ (gA σ 13 i).toInt ≤ 400) ∧ (0 ≤ (gA σ 14 i).toInt ∧ (gA σ 14 i).toInt ≤ 1000) ∧ (-1 ≤ (gA σ 16 i).toInt ∧ (gA σ 16 i).toInt ≤ 3)
def cCnt (σ : St) : Prop := gI σ 2 = gI σ 20
def cRow (σ : St) : Prop := ∀ i : Nat, (i : Int) < (gI σ 2).toInt → RowEq σ i ∧ RowOk σ i
def cSky (σ : St) : Prop := ∀ i : Nat, i < 24 → (gA σ 2 i = gA σ 27 i ∧ gA σ 3 i = gA σ 28 i) ∧ (-1000 ≤ (gA σ 2 i).toInt ∧ (gA σ 2 i).toInt ≤ 1000) ∧ (0 ≤ (gA σ 3 i).toInt ∧ (gA σ 3 i).toInt ≤ 1000)
def cCeil (σ : St) : Prop := ∀ i : Nat, i < 4 → gA σ 4 i = gA σ 31 i ∧ 0 ≤ (gA σ 4 i).toInt ∧ (gA σ 4 i).toInt ≤ 1000000
def cWind (σ : St) : Prop := ∀ i : Nat, i < 24 → gA σ 6 i = gA σ 29 i ∧ -1 ≤ (gA σ 6 i).toInt ∧ (gA σ 6 i).toInt ≤ 200
def cCln (σ : St) : Prop := ∀ i : Nat, i < 24 → gA σ 7 i = gA σ 30 i ∧ (gA σ 7 i = 0 ∨ gA σ 7 i = 1)
def cLim (σ : St) : Prop := gI σ 5 = gI σ 21 ∧ 1 ≤ (gI σ 5).toInt ∧ (gI σ 5).toInt ≤ 200
def cNh (σ : St) : Prop := gI σ 0 = gI σ 22
def cLt (σ : St) : Prop := gI σ 1 = gI σ 26
def cLost (k : Nat) (σ : St) : Prop := 0 ≤ (gI σ 24).toInt ∧ (gI σ 24).toInt ≤ 48 * (k : Int) ∧ (gI σ 6).toInt = if (gI σ 24).toInt ≤ 3 then (gI σ 24).toInt else 3
def cStow (σ : St) : Prop := (gI σ 7 = 0 ∨ gI σ 7 = 1) ∧ (gI σ 7 = 1 ↔ gI σ 23 = 2)
def cBeg (σ : St) : Prop := gI σ 8 = gI σ 25 ∧ (gI σ 8 = 0 ∨ gI σ 8 = 1)
def cSta (σ : St) : Prop := gI σ 9 = gI σ 23 ∧ gI σ 27 = gI σ 23
def cBook (σ : St) : Prop := (∀ i : Nat, i < 6 → gB σ 2 i = gB σ 10 i) ∧ gB σ 10 6 = (gI σ 9).toInt64 ∧ gB σ 10 7 = (gI σ 10).toInt64
def cAll (σ : St) : Prop := ∀ i : Nat, i < 6 → gB σ 3 i = gB σ 11 i
def cTape (σ : St) : Prop := gI σ 12 = gI σ 28 ∧ ∀ i : Nat, (i : Int) < (gI σ 12).toInt → gA σ 8 i = gA σ 32 i
def cFnd (σ : St) : Prop := ∀ i : Nat, i < 5 → gA σ 0 i = gA σ 33 (i + 1)
def cTry (σ : St) : Prop := gI σ 29 = 99
/-- all but the rows, the tape, the findings, the hours' numbers -/
def Rel (k : Nat) (σ : St) : Prop := Safe σ ∧ (cCnt σ ∧ cRow σ) ∧ cSky σ ∧ (cCeil σ ∧ cWind σ ∧ cCln σ ∧ cLim σ) ∧ (cNh σ ∧ cLt σ ∧ cLost k σ ∧ cStow σ ∧ cBeg σ ∧ cSta σ ∧ cBook σ ∧ cAll σ) ∧ cTape σ ∧ cFnd σ ∧ cTry σ
theorem cLost.up {k : Nat} {σ : St} (h : cLost k σ) : cLost (k + 1) σ := ⟨h.1, by have := h.2.1; omega, h.2.2⟩
theorem Rel.up {k : Nat} {σ : St} (h : Rel k σ) : Rel (k + 1) σ := by
  obtain ⟨h1, h2, h3, h4, ⟨a1, a2, a3, a4⟩, h6⟩ := h
  exact ⟨h1, h2, h3, h4, ⟨a1, a2, a3.up, a4⟩, h6⟩
theorem toN {a : Int32} {n : Nat} (h : vp_in a n) : (Int32.toNatClampNeg a : Int) = a.toInt := by
  have := vp_in_iff.mp h
  simp only [Int32.toNatClampNeg]; omega
theorem Init_Rel (σ : St) (h : Init σ) : Rel 0 σ := by
  obtain ⟨h1, h2, h3, h4, h5, h6, h7⟩ := h
  have z : ∀ k, k ≠ 5 → k ≠ 21 → k ≠ 29 → gI σ k = 0 := fun k a b c => by rw [h1, if_neg a, if_neg b, if_neg c]
  have z0 := z 0 (by decide) (by decide) (by decide)
  have z1 := z 1 (by decide) (by decide) (by decide)
  have z2 := z 2 (by decide) (by decide) (by decide)
  have z4 := z 4 (by decide) (by decide) (by decide)
  have z6 := z 6 (by decide) (by decide) (by decide)
  have z7 := z 7 (by decide) (by decide) (by decide)
  have z8 := z 8 (by decide) (by decide) (by decide)
  have z9 := z 9 (by decide) (by decide) (by decide)
  have z10 := z 10 (by decide) (by decide) (by decide)
  have z12 := z 12 (by decide) (by decide) (by decide)
  have z13 := z 13 (by decide) (by decide) (by decide)
  have z20 := z 20 (by decide) (by decide) (by decide)
  have z22 := z 22 (by decide) (by decide) (by decide)
  have z23 := z 23 (by decide) (by decide) (by decide)
  have z24 := z 24 (by decide) (by decide) (by decide)
  have z25 := z 25 (by decide) (by decide) (by decide)
  have z26 := z 26 (by decide) (by decide) (by decide)
  have z27 := z 27 (by decide) (by decide) (by decide)
  have z28 := z 28 (by decide) (by decide) (by decide)
  have y5 : gI σ 5 = 50 := h1 5
  have y21 : gI σ 21 = 50 := h1 21
  have y29 : gI σ 29 = 99 := h1 29
  have q : ∀ k, k ≠ 4 → k ≠ 6 → k ≠ 16 → k ≠ 29 → k ≠ 31 → ∀ i, gA σ k i = 0 := h6
  refine ⟨?_, ⟨?_, ?_⟩, ?_, ⟨?_, ?_, ?_, ?_⟩, ⟨?_, ?_, ?_, ?_, ?_, ?_, ?_, ?_⟩, ?_, ?_, ?_⟩
  · unfold Safe
    rw [z2, z0, z12, z13, z4, z20, z22, z28, z1, lit_0]
    refine ⟨by decide, fun i _ => ?_, by decide, by decide, by decide, by decide, by decide, by decide, by decide, by decide⟩
    rw [q 15 (by decide) (by decide) (by decide) (by decide) (by decide), lit_0]; decide
  · unfold cCnt; rw [z2, z20]
  · intro i hi; rw [z2, lit_0] at hi; omega
  · intro i hi
    rw [q 2 (by decide) (by decide) (by decide) (by decide) (by decide), q 27 (by decide) (by decide) (by decide) (by decide) (by decide), q 3 (by decide) (by decide) (by decide) (by decide) (by decide), q 28 (by decide) (by decide) (by decide) (by decide) (by decide), lit_0]; decide
  · intro i hi
    obtain ⟨a, b⟩ := h3 i hi
    rw [a, b, lit_1000000]; decide
  · intro i hi
    obtain ⟨a, b⟩ := h4 i hi
    rw [a, b, lit_m1]; decide
  · intro i hi
    rw [q 7 (by decide) (by decide) (by decide) (by decide) (by decide), q 30 (by decide) (by decide) (by decide) (by decide) (by decide)]; exact ⟨rfl, Or.inl rfl⟩
  · unfold cLim; rw [y5, y21, lit_50]; decide
  · unfold cNh; rw [z0, z22]
  · unfold cLt; rw [z1, z26]
  · unfold cLost; rw [z24, z6, lit_0]; decide
  · unfold cStow; rw [z7, z23]; decide
  · unfold cBeg; rw [z8, z25]; exact ⟨rfl, Or.inl rfl⟩
  · unfold cSta; rw [z9, z23, z27]; exact ⟨rfl, rfl⟩
  · unfold cBook; rw [z9, z10, h7, h7]; exact ⟨fun i _ => by rw [h7, h7], rfl, rfl⟩
  · intro i _; rw [h7, h7]
  · unfold cTape; rw [z12, z28]; exact ⟨rfl, fun i hi => by rw [lit_0] at hi; omega⟩
  · intro i _; rw [q 0 (by decide) (by decide) (by decide) (by decide) (by decide), q 33 (by decide) (by decide) (by decide) (by decide) (by decide)]
  · exact y29
/-! findings -/
theorem upd_at {f : Nat → Int32} {k : Nat} {v : Int32} : upd f k v k = v := pk_us
theorem upd_ne {f : Nat → Int32} {k j : Nat} {v : Int32} (h : j ≠ k) : upd f k v j = f j := pk_un h
theorem fnd_gen {σ : St} (h : cFnd σ) {i : Nat} (hi : i < 5) : cFnd (uA (uA σ 0 i (gA σ 0 i + 1)) 33 (i + 1) (gA (uA σ 0 i (gA σ 0 i + 1)) 33 (i + 1) + 1)) := by
  intro j hj
  show upd (gA σ 0) i (gA σ 0 i + 1) j = upd (gA σ 33) (i + 1) (gA σ 33 (i + 1) + 1) (j + 1)
  by_cases e : j = i
  · subst e; rw [upd_at, upd_at, h j hi]
  · rw [upd_ne e, upd_ne (by omega)]; exact h j hj
def five (c : Int32) : Prop := c = -1000000001 ∨ c = -1000000002 ∨ c = -1000000003 ∨ c = -1000000004 ∨ c = -1000000005
theorem five_ix {c : Int32} (h : five c) : ∃ i, i < 5 ∧ Int32.toNatClampNeg ((-1000000001 : Int32) - c) = i ∧ Int32.toNatClampNeg ((-1000000000 : Int32) - c) = i + 1 := by
  rcases h with rfl | rfl | rfl | rfl | rfl
  · exact ⟨0, by decide, by decide +kernel, by decide +kernel⟩
  · exact ⟨1, by decide, by decide +kernel, by decide +kernel⟩
  · exact ⟨2, by decide, by decide +kernel, by decide +kernel⟩
  · exact ⟨3, by decide, by decide +kernel, by decide +kernel⟩
  · exact ⟨4, by decide, by decide +kernel, by decide +kernel⟩
theorem ansR {k : Nat} {σ : St} {c : Int32} (h : Rel k σ) (hc : five c) {x y : Int32 × St} (ex : x = f9_answer σ c) (ey : y = f10_finding (f9_answer σ c).2 c) : Safe x.2 ∧ x.1 = y.1 ∧ Rel (k + 1) y.2 := by
  subst ex; subst ey
  refine ⟨sX9_answer h.1, rfl, ?_⟩
  have hs : Safe (f10_finding (f9_answer σ c).2 c).2 := sX10_finding (sX9_answer h.1)
  obtain ⟨i, hi, e1, e2⟩ := five_ix hc
  have hf := fnd_gen h.2.2.2.2.2.2.1 hi
  have ef : (f10_finding (f9_answer σ c).2 c).2 = uA (uA σ 0 i (gA σ 0 i + 1)) 33 (i + 1) (gA (uA σ 0 i (gA σ 0 i + 1)) 33 (i + 1) + 1) := by
    unfold f10_finding f9_answer
    rw [e1, e2]
  rw [ef] at hs ⊢
  obtain ⟨h1, h2, h3, h4, h5, h6, h7, h8⟩ := h.up
  exact ⟨hs, h2, h3, h4, h5, h6, hf, h8⟩
theorem ansL {k : Nat} {σ : St} {c : Int32} (h : Rel k σ) (hc : five c) {x y : Int64 × St} (ex : x = (Int32.toInt64 (f9_answer σ c).1, (f9_answer σ c).2)) (ey : y = (Int32.toInt64 (f10_finding (f9_answer σ c).2 c).1, (f10_finding (f9_answer σ c).2 c).2)) : Safe x.2 ∧ x.1 = y.1 ∧ Rel (k + 1) y.2 := by
  subst ex; subst ey
  obtain ⟨a, b, c2⟩ := ansR h hc rfl rfl
  exact ⟨a, congrArg Int32.toInt64 b, c2⟩
theorem f1 : five (-1000000001) := Or.inl rfl
theorem f2 : five (-1000000002) := Or.inr (Or.inl rfl)
theorem f3 : five (-1000000003) := Or.inr (Or.inr (Or.inl rfl))
theorem f4 : five (-1000000004) := Or.inr (Or.inr (Or.inr (Or.inl rfl)))
theorem f5 : five (-1000000005) := Or.inr (Or.inr (Or.inr (Or.inr rfl)))
theorem row_eq {k : Nat} {σ : St} (h : Rel k σ) (a : Int32) : f10_isRow σ a = f9_isRow σ a := by
  have e : gI σ 2 = gI σ 20 := h.2.1.1
  unfold f10_isRow f9_isRow
  rw [e]; rfl
theorem row_lt {σ : St} {a : Int32} (hs : Safe σ) (h : ¬ f9_isRow σ a = 0) : vp_in a 10 ∧ (Int32.toNatClampNeg a : Int) < (gI σ 2).toInt := by
  have h1 := isRow_in hs h
  have h2 := wi_t h
  have h3 := hs.cnt
  rw [lit_0, i_sub (by rw [lit_1]; omega) (by rw [lit_1]; omega), lit_1] at h2
  exact ⟨h1, by rw [toN h1]; omega⟩
theorem pu_next (k : Nat) (σ : St) (h : Rel k σ) : Safe σ ∧ f9_next σ = f10_next σ ∧ Rel (k + 1) σ := ⟨h.1, h.2.2.2.2.1.1, h.up⟩
theorem pu_all (k : Nat) (σ : St) (a1 : Int32) (h : Rel k σ) : Safe (f9_all σ a1).2 ∧ (f9_all σ a1).1 = (f10_all (f9_all σ a1).2 a1).1 ∧ Rel (k + 1) (f10_all (f9_all σ a1).2 a1).2 := by
  by_cases c1 : f9_isWithin a1 0 5 = 0
  · have ex : f9_all σ a1 = (Int32.toInt64 (f9_answer σ (-1000000001)).1, (f9_answer σ (-1000000001)).2) := by unfold f9_all; rw [if_pos c1]
    exact ansL h f1 ex (by rw [ex]; unfold f10_all; rw [if_pos (show f10_in a1 0 5 = 0 from c1)])
  · have ex : f9_all σ a1 = (gB σ 3 (Int32.toNatClampNeg a1), σ) := by unfold f9_all; rw [if_neg c1]
    have ey : f10_all σ a1 = (gB σ 11 (Int32.toNatClampNeg a1), σ) := by unfold f10_all; rw [if_neg (show ¬ f10_in a1 0 5 = 0 from c1)]
    rw [ex]; dsimp only; rw [ey]
    exact ⟨h.1, h.2.2.2.2.1.2.2.2.2.2.2.2 _ (vlt (wi5_in c1)), h.up⟩
theorem pu_found (k : Nat) (σ : St) (a1 : Int32) (h : Rel k σ) : Safe (f9_found σ a1).2 ∧ (f9_found σ a1).1 = (f10_found (f9_found σ a1).2 a1).1 ∧ Rel (k + 1) (f10_found (f9_found σ a1).2 a1).2 := by
  by_cases c1 : f9_isWithin a1 (-1000000005) (-1000000001) = 0
  · have ex : f9_found σ a1 = f9_answer σ (-1000000001) := by unfold f9_found; rw [if_pos c1]
    exact ansR h f1 ex (by rw [ex]; unfold f10_found; rw [if_pos (show f10_in a1 (-1000000005) (-1000000001) = 0 from c1)])
  · have ex : f9_found σ a1 = (gA σ 0 (Int32.toNatClampNeg ((-1000000001 : Int32) - a1)), σ) := by unfold f9_found; rw [if_neg c1]
    have ey : f10_found σ a1 = (gA σ 33 (Int32.toNatClampNeg ((-1000000000 : Int32) - a1)), σ) := by unfold f10_found; rw [if_neg (show ¬ f10_in a1 (-1000000005) (-1000000001) = 0 from c1)]
    rw [ex]; dsimp only; rw [ey]
    refine ⟨h.1, ?_, h.up⟩
    have h2 := wi_t c1
    rw [lit_m1000000005, lit_m1000000001] at h2
    have h3 : ((-1000000001 : Int32) - a1).toInt = -1000000001 - a1.toInt := by rw [i_sub (by rw [lit_m1000000001]; omega) (by rw [lit_m1000000001]; omega), lit_m1000000001]
    have h4 : ((-1000000000 : Int32) - a1).toInt = -1000000000 - a1.toInt := by rw [i_sub (by rw [lit_m1000000000]; omega) (by rw [lit_m1000000000]; omega), lit_m1000000000]
    have h5 := toN (found_in c1)
    have h6 := toN (found_inM (a := a1) c1)
    have h7 := h.2.2.2.2.2.2.1 (Int32.toNatClampNeg ((-1000000001 : Int32) - a1)) (vlt (found_in c1))
    rw [show Int32.toNatClampNeg ((-1000000000 : Int32) - a1) = Int32.toNatClampNeg ((-1000000001 : Int32) - a1) + 1 by omega]
    exact h7
theorem pu_limit (k : Nat) (σ : St) (a1 : Int32) (h : Rel k σ) : Safe (f9_limit σ a1).2 ∧ (f9_limit σ a1).1 = (f10_limit (f9_limit σ a1).2 a1).1 ∧ Rel (k + 1) (f10_limit (f9_limit σ a1).2 a1).2 := by
  by_cases c1 : f9_isWithin a1 1 200 = 0
  · have ex : f9_limit σ a1 = f9_answer σ (-1000000001) := by unfold f9_limit; rw [if_pos c1]
    exact ansR h f1 ex (by rw [ex]; unfold f10_limit; rw [if_pos (show f10_in a1 1 200 = 0 from c1)])
  · have ex : f9_limit σ a1 = (gI σ 5, uI σ 5 a1) := by unfold f9_limit; rw [if_neg c1]
    have ey : f10_limit (uI σ 5 a1) a1 = (gI σ 21, uI (uI σ 5 a1) 21 a1) := by unfold f10_limit; rw [if_neg (show ¬ f10_in a1 1 200 = 0 from c1)]; rfl
    rw [ex]; dsimp only; rw [ey]
    have h2 := wi_t c1
    rw [lit_1, lit_200] at h2
    obtain ⟨h1, q2, h3, ⟨b1, b2, b3, b4⟩, h5⟩ := h.up
    exact ⟨sf_I (by decide) h.1, b4.1, sf_I (by decide) (sf_I (by decide) h.1), q2, h3, ⟨b1, b2, b3, rfl, h2.1, h2.2⟩, h5⟩
theorem pu_ceiling (k : Nat) (σ : St) (a1 a2 : Int32) (h : Rel k σ) : Safe (f9_ceiling σ a1 a2).2 ∧ (f9_ceiling σ a1 a2).1 = (f10_ceiling (f9_ceiling σ a1 a2).2 a1 a2).1 ∧ Rel (k + 1) (f10_ceiling (f9_ceiling σ a1 a2).2 a1 a2).2 := by
  by_cases c1 : f9_isString a1 = 0
  · have ex : f9_ceiling σ a1 a2 = f9_answer σ (-1000000001) := by unfold f9_ceiling; rw [if_pos c1]
    exact ansR h f1 ex (by rw [ex]; unfold f10_ceiling; rw [if_pos (show f10_isString a1 = 0 from c1)])
  by_cases c2 : f9_isWithin a2 0 1000000 = 0
  · have ex : f9_ceiling σ a1 a2 = f9_answer σ (-1000000001) := by unfold f9_ceiling; rw [if_neg c1, if_pos c2]
    exact ansR h f1 ex (by rw [ex]; unfold f10_ceiling; rw [if_neg (show ¬ f10_isString a1 = 0 from c1), if_pos (show f10_in a2 0 1000000 = 0 from c2)])
  · have hi := vlt (isString_in c1)
    generalize hj : Int32.toNatClampNeg a1 = j at hi
    have ex : f9_ceiling σ a1 a2 = (gA σ 4 j, uA σ 4 j a2) := by unfold f9_ceiling; rw [if_neg c1, if_neg c2, hj]
    have ey : f10_ceiling (uA σ 4 j a2) a1 a2 = (gA σ 31 j, uA (uA σ 4 j a2) 31 j a2) := by unfold f10_ceiling; rw [if_neg (show ¬ f10_isString a1 = 0 from c1), if_neg (show ¬ f10_in a2 0 1000000 = 0 from c2), hj]; rfl
    rw [ex]; dsimp only; rw [ey]
    have h2 := wi_t c2
    rw [lit_0, lit_1000000] at h2
    obtain ⟨h1, q2, h3, ⟨b1, b2⟩, h5⟩ := h.up
    refine ⟨sf_A (by decide) h.1, (b1 j hi).1, sf_A (by decide) (sf_A (by decide) h.1), q2, h3, ⟨fun i hi2 => ?_, b2⟩, h5⟩
    show upd (gA σ 4) j a2 i = upd (gA σ 31) j a2 i ∧ 0 ≤ (upd (gA σ 4) j a2 i).toInt ∧ (upd (gA σ 4) j a2 i).toInt ≤ 1000000
    by_cases e : i = j
    · subst e; rw [upd_at, upd_at]; exact ⟨rfl, h2⟩
    · rw [upd_ne e, upd_ne e]; exact b1 i hi2
