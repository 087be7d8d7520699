theorem Safe.agT {pa pb : Nat → Bool} {σ τ : St} (h : Safe σ) (g : Ag pT pa pb σ τ) (h15 : pa 15 = true) : Safe τ := by
  unfold Safe
  rw [g.1 2 rfl, g.1 0 rfl, g.1 12 rfl, g.1 13 rfl, g.1 4 rfl, g.1 20 rfl, g.1 22 rfl, g.1 28 rfl, g.1 1 rfl, g.2.1 15 h15]
  exact h
def skyEq (σ τ : St) : Prop := ∀ i : Nat, i < 24 → (gA σ 2 i = gA τ 27 i ∧ gA σ 3 i = gA τ 28 i) ∧ (-1000 ≤ (gA σ 2 i).toInt ∧ (gA σ 2 i).toInt ≤ 1000) ∧ (0 ≤ (gA σ 3 i).toInt ∧ (gA σ 3 i).toInt ≤ 1000)
theorem skyEq.put {σ τ : St} (h : skyEq σ τ) {a b c : Int32} (hw : ¬ f9_isSunWay a b c = 0) : skyEq (f4_put σ a b c) (f10_setSun τ a b c) := by
  obtain ⟨w1, w2, w3⟩ := way_t hw
  intro i hi
  show (upd (gA σ 2) (Int32.toNatClampNeg a) b i = upd (gA τ 27) (Int32.toNatClampNeg a) b i ∧ upd (gA σ 3) (Int32.toNatClampNeg a) c i = upd (gA τ 28) (Int32.toNatClampNeg a) c i) ∧ (-1000 ≤ (upd (gA σ 2) (Int32.toNatClampNeg a) b i).toInt ∧ (upd (gA σ 2) (Int32.toNatClampNeg a) b i).toInt ≤ 1000) ∧ (0 ≤ (upd (gA σ 3) (Int32.toNatClampNeg a) c i).toInt ∧ (upd (gA σ 3) (Int32.toNatClampNeg a) c i).toInt ≤ 1000)
  generalize Int32.toNatClampNeg a = j
  by_cases e : i = j
  · subst e; rw [upd_at, upd_at, upd_at, upd_at]; exact ⟨⟨rfl, rfl⟩, w2, w3⟩
  · rw [upd_ne e, upd_ne e, upd_ne e, upd_ne e]; exact h i hi
/-- a place of a triple in the tape -/
def TP (to j : Int32) : Prop := ∃ p q : Int, to.toInt = 3 * q ∧ j.toInt = 3 * p ∧ 0 ≤ p ∧ p ≤ q ∧ q ≤ 24
theorem TP.add {to j : Int32} (h : TP to j) : (j + 1).toInt = j.toInt + 1 ∧ (j + 2).toInt = j.toInt + 2 ∧ (j + 3).toInt = j.toInt + 3 := by
  obtain ⟨p, q, h1, h2, h3, h4, h5⟩ := h
  exact ⟨by rw [i_add (by rw [lit_1]; omega) (by rw [lit_1]; omega), lit_1], by rw [i_add (by rw [lit_2]; omega) (by rw [lit_2]; omega), lit_2], by rw [i_add (by rw [lit_3]; omega) (by rw [lit_3]; omega), lit_3]⟩
theorem TP.iff {to j : Int32} (h : TP to j) : to ≤ j + 2 ↔ to ≤ j := by
  have ha := h.add
  obtain ⟨p, q, h1, h2, h3, h4, h5⟩ := h
  rw [i_le, i_le]; omega
theorem TP.step {to j : Int32} (h : TP to j) (c : ¬ to ≤ j) : TP to (j + 3) := by
  have ha := h.add
  obtain ⟨p, q, h1, h2, h3, h4, h5⟩ := h
  rw [i_le] at c
  exact ⟨p + 1, q, h1, by omega, by omega, by omega, h5⟩
def tEq (to : Int32) (σ τ : St) : Prop := ∀ i : Nat, (i : Int) < to.toInt → gA σ 8 i = gA τ 32 i
theorem tEq.at3 {to j : Int32} {σ τ : St} (h : tEq to σ τ) (t : TP to j) (c : ¬ to ≤ j) : gA σ 8 (Int32.toNatClampNeg j) = gA τ 32 (Int32.toNatClampNeg j) ∧ gA σ 8 (Int32.toNatClampNeg (j + 1)) = gA τ 32 (Int32.toNatClampNeg (j + 1)) ∧ gA σ 8 (Int32.toNatClampNeg (j + 2)) = gA τ 32 (Int32.toNatClampNeg (j + 2)) := by
  obtain ⟨a1, a2, a3⟩ := t.add
  obtain ⟨p, q, h1, h2, h3, h4, h5⟩ := t
  rw [i_le] at c
  refine ⟨h _ ?_, h _ ?_, h _ ?_⟩ <;> simp only [Int32.toNatClampNeg] <;> omega
def wayT (σ : St) (j : Int32) : Prop := ¬ f9_isSunWay (gA σ 8 (Int32.toNatClampNeg j)) (gA σ 8 (Int32.toNatClampNeg (j + 1))) (gA σ 8 (Int32.toNatClampNeg (j + 2))) = 0
theorem sunsA_two (to : Int32) (σ : St) : ∀ (n : Nat) (j : Int32), TP to j → to.toInt + 3 ≤ j.toInt + 3 * n →
    (f9_suns_A to n σ j = f9_answer σ (-1000000001) ∧ ∀ τ, tEq to σ τ → f10_suns_A to n τ j = f10_finding τ (-1000000001)) ∨
    (f9_suns_A to n σ j = f9_suns_B to 25 σ 0 ∧ (∀ τ, tEq to σ τ → f10_suns_A to n τ j = f10_suns_B to 25 τ 0) ∧ ∀ i, TP to i → j.toInt ≤ i.toInt → ¬ to ≤ i → wayT σ i)
  | 0, j, t, hf => by
    exfalso
    obtain ⟨p, q, h1, h2, h3, h4, h5⟩ := t
    omega
  | n + 1, j, t, hf => by
    by_cases c : to ≤ j
    · right
      refine ⟨by rw [f9_suns_A, if_pos (t.iff.mpr c)], fun τ _ => by rw [f10_suns_A, if_pos c], fun i ti hi hc => ?_⟩
      rw [i_le] at c hc; omega
    · by_cases c2 : f9_isSunWay (gA σ 8 (Int32.toNatClampNeg j)) (gA σ 8 (Int32.toNatClampNeg (j + 1))) (gA σ 8 (Int32.toNatClampNeg (j + 2))) = 0
      · left
        refine ⟨by rw [f9_suns_A, if_neg (fun q => c (t.iff.mp q)), if_pos c2], fun τ e => ?_⟩
        obtain ⟨e1, e2, e3⟩ := e.at3 t c
        rw [e1, e2, e3] at c2
        rw [f10_suns_A, if_neg c, if_pos (show f10_isSun _ _ _ = 0 from c2)]
      · have ha := t.add
        rcases sunsA_two to σ n (j + 3) (t.step c) (by rw [ha.2.2]; omega) with ⟨y1, y2⟩ | ⟨y1, y2, y3⟩
        · left
          refine ⟨by rw [f9_suns_A, if_neg (fun q => c (t.iff.mp q)), if_neg c2]; exact y1, fun τ e => ?_⟩
          obtain ⟨e1, e2, e3⟩ := e.at3 t c
          rw [e1, e2, e3] at c2
          rw [f10_suns_A, if_neg c, if_neg (show ¬ f10_isSun _ _ _ = 0 from c2)]
          exact y2 τ e
        · right
          refine ⟨by rw [f9_suns_A, if_neg (fun q => c (t.iff.mp q)), if_neg c2]; exact y1, fun τ e => ?_, fun i ti hi hc => ?_⟩
          · obtain ⟨e1, e2, e3⟩ := e.at3 t c
            rw [e1, e2, e3] at c2
            rw [f10_suns_A, if_neg c, if_neg (show ¬ f10_isSun _ _ _ = 0 from c2)]
            exact y2 τ e
          · by_cases e : i = j
            · subst e; exact c2
            · refine y3 i ti ?_ hc
              rw [ha.2.2]
              obtain ⟨p, q, h1, h2, h3, h4, h5⟩ := t
              obtain ⟨p2, q2, g1, g2, g3, g4, g5⟩ := ti
              rw [i_eq] at e; omega
theorem sunsB_two (to : Int32) : ∀ (n : Nat) (σ τ : St) (j : Int32), TP to j → tEq to σ τ → skyEq σ τ → (∀ i, TP to i → ¬ to ≤ i → wayT σ i) →
    (f9_suns_B to n σ j).1 = (f10_suns_B to n τ j).1 ∧ skyEq (f9_suns_B to n σ j).2 (f10_suns_B to n τ j).2 ∧ Ag pT a23 pT σ (f9_suns_B to n σ j).2 ∧ Ag pT a78 pT τ (f10_suns_B to n τ j).2
  | 0, σ, τ, j, _, _, h, _ => ⟨rfl, h, Ag.rf _, Ag.rf _⟩
  | n + 1, σ, τ, j, t, e, h, hw => by
    by_cases c : to ≤ j
    · rw [f9_suns_B, f10_suns_B, if_pos (t.iff.mpr c), if_pos c]; exact ⟨rfl, h, Ag.rf _, Ag.rf _⟩
    · rw [f9_suns_B, f10_suns_B, if_neg (fun q => c (t.iff.mp q)), if_neg c]
      obtain ⟨e1, e2, e3⟩ := e.at3 t c
      have w : ¬ f9_isSunWay (gA σ 8 (Int32.toNatClampNeg j)) (gA σ 8 (Int32.toNatClampNeg (j + 1))) (gA σ 8 (Int32.toNatClampNeg (j + 2))) = 0 := hw j t c
      rw [← e1, ← e2, ← e3]
      generalize gA σ 8 (Int32.toNatClampNeg j) = a at w
      generalize gA σ 8 (Int32.toNatClampNeg (j + 1)) = b at w
      generalize gA σ 8 (Int32.toNatClampNeg (j + 2)) = d at w
      obtain ⟨y1, y2, y3, y4⟩ := sunsB_two to n (f4_put σ a b d) (f10_setSun τ a b d) (j + 3) (t.step c) e (h.put w) hw
      exact ⟨y1, y2, (((Ag.rf σ).uA rfl).uA rfl).tr y3, (((Ag.rf τ).uA rfl).uA rfl).tr y4⟩
theorem pu_suns (k : Nat) (σ : St) (h : Rel k σ) : Safe (f9_suns σ).2 ∧ (f9_suns σ).1 = (f10_suns (f9_suns σ).2).1 ∧ Rel (k + 1) (f10_suns (f9_suns σ).2).2 := by
  have e28 : gI σ 12 = gI σ 28 := h.2.2.2.2.2.1.1
  have tp := h.2.2.2.2.2.1.2
  have hz := h.1.sz
  by_cases c : gI σ 12 - gI σ 12 / 3 * 3 = 0
  · have hs1 : Safe (uI σ 12 0) := sf_I12 (by rw [lit_0]; omega) h.1
    have hr : Rel (k + 1) (uI (uI σ 12 0) 28 0) := by
      obtain ⟨h1, q2, h3, h4, h5, h6, h7⟩ := h.up
      exact ⟨sf_I28 (by rw [lit_0]; omega) hs1, q2, h3, h4, h5, ⟨rfl, fun i hi => by have hi2 : (i : Int) < (0 : Int32).toInt := hi; rw [lit_0] at hi2; omega⟩, h7⟩
    have hr0 : Rel k (uI (uI σ 12 0) 28 0) := by
      obtain ⟨h1, q2, h3, h4, h5, h6, h7⟩ := h
      exact ⟨sf_I28 (by rw [lit_0]; omega) hs1, q2, h3, h4, h5, ⟨rfl, fun i hi => by have hi2 : (i : Int) < (0 : Int32).toInt := hi; rw [lit_0] at hi2; omega⟩, h7⟩
    have t0 : TP (gI σ 12) 0 := by
      have hd : (gI σ 12 / 3).toInt = (gI σ 12).toInt / 3 := by
        rw [Int32.toInt_div_of_ne_right _ _ (by decide), lit_3, Int.tdiv_eq_ediv_of_nonneg (by omega)]
      have hm : (gI σ 12 / 3 * 3).toInt = (gI σ 12).toInt / 3 * 3 := by rw [i_mul (by rw [hd, lit_3]; omega) (by rw [hd, lit_3]; omega), hd, lit_3]
      have hc2 := congrArg Int32.toInt c
      rw [i_sub (by rw [hm]; omega) (by rw [hm]; omega), hm, lit_0] at hc2
      exact ⟨0, (gI σ 12).toInt / 3, by omega, by rw [lit_0]; omega, by omega, by omega, by omega⟩
    have e9 : f9_suns σ = f9_suns_A (gI σ 12) 25 (uI σ 12 0) 0 := by unfold f9_suns; rw [if_pos c]; rfl
    have e10 : ∀ τ : St, gI τ 28 = gI σ 28 → f10_suns τ = f10_suns_A (gI σ 12) 25 (uI τ 28 0) 0 := fun τ e => by unfold f10_suns; rw [e, ← e28, if_pos c]
    have te : tEq (gI σ 12) (uI σ 12 0) (uI (uI σ 12 0) 28 0) := fun i hi => tp i hi
    rcases sunsA_two (gI σ 12) (uI σ 12 0) 25 0 t0 (by rw [lit_0]; omega) with ⟨y1, y2⟩ | ⟨y1, y2, y3⟩
    · rw [e9, y1]
      have y4 := y2 (uI (f9_answer (uI σ 12 0) (-1000000001)).2 28 0) (fun i hi => tp i hi)
      rw [e10 (f9_answer (uI σ 12 0) (-1000000001)).2 rfl, y4]
      obtain ⟨x1, x2, x3⟩ := ansR hr0 f1 rfl rfl
      exact ⟨sX9_answer hs1, rfl, x3⟩
    · have g0 := sunsB_two (gI σ 12) 25 (uI σ 12 0) (uI (uI σ 12 0) 28 0) 0 t0 te h.2.2.1 (fun i ti hc => y3 i ti (by rw [lit_0]; obtain ⟨p, q, h1, h2, h3, h4, h5⟩ := ti; omega) hc)
      have ga := g0.2.2.1
      rw [e9, y1]
      generalize hσ1 : f9_suns_B (gI σ 12) 25 (uI σ 12 0) 0 = R at *
      obtain ⟨v, σ1⟩ := R
      dsimp only at *
      have te2 : tEq (gI σ 12) (uI σ 12 0) (uI σ1 28 0) := fun i hi => by show gA σ 8 i = gA σ1 32 i; rw [ga.2.1 32 rfl]; exact tp i hi
      rw [e10 σ1 (ga.1 28 rfl), y2 _ te2]
      have sk : skyEq (uI σ 12 0) (uI σ1 28 0) := fun i hi => by
        have q27 : gA (uI σ1 28 0) 27 = gA σ 27 := ga.2.1 27 rfl
        have q28 : gA (uI σ1 28 0) 28 = gA σ 28 := ga.2.1 28 rfl
        rw [q27, q28]; exact h.2.2.1 i hi
      have g1 := sunsB_two (gI σ 12) 25 (uI σ 12 0) (uI σ1 28 0) 0 t0 te2 sk (fun i ti hc => y3 i ti (by rw [lit_0]; obtain ⟨p, q, h1, h2, h3, h4, h5⟩ := ti; omega) hc)
      rw [hσ1] at g1
      obtain ⟨z1, z2, z3, z4⟩ := g1
      have hsσ1 : Safe σ1 := hs1.agT ga rfl
      refine ⟨hsσ1, z1, ?_⟩
      have hs2 : Safe (uI σ1 28 0) := sf_I28 (by rw [lit_0]; omega) hsσ1
      generalize (f10_suns_B (gI σ 12) 25 (uI σ1 28 0) 0).2 = ρ at z2 z4
      have hsρ : Safe ρ := hs2.agT z4 rfl
      have gi : ∀ k, gI ρ k = gI (uI (uI σ 12 0) 28 0) k := fun k => by
        rw [z4.1 k rfl, gI_uI, gI_uI]
        split
        · rfl
        · exact ga.1 k rfl
      have gA' : ∀ k, a23 k = true → a78 k = true → gA ρ k = gA (uI (uI σ 12 0) 28 0) k := fun k q1 q2 => (z4.2.1 k q2).trans (ga.2.1 k q1)
      have gB' : ∀ k, gB ρ k = gB (uI (uI σ 12 0) 28 0) k := fun k => (z4.2.2 k rfl).trans (ga.2.2 k rfl)
      obtain ⟨h1, ⟨q2, q3⟩, h3, h4, h5, h6, h7, h8⟩ := hr
      refine ⟨hsρ, ⟨?_, ?_⟩, ?_, ?_, ?_, ?_, ?_, ?_⟩
      · unfold cCnt; rw [gi, gi]; exact q2
      · unfold cRow RowEq RowOk
        rw [gi, gA' 10 rfl rfl, gA' 11 rfl rfl, gA' 12 rfl rfl, gA' 13 rfl rfl, gA' 14 rfl rfl, gA' 15 rfl rfl, gA' 16 rfl rfl, gA' 20 rfl rfl, gA' 21 rfl rfl, gA' 22 rfl rfl, gA' 23 rfl rfl, gA' 24 rfl rfl, gA' 25 rfl rfl, gA' 26 rfl rfl]; exact q3
      · intro i hi
        have q2' : gA ρ 2 = gA σ1 2 := z4.2.1 2 rfl
        have q3' : gA ρ 3 = gA σ1 3 := z4.2.1 3 rfl
        rw [q2', q3']; exact z2 i hi
      · unfold cCeil cWind cCln cLim; rw [gA' 4 rfl rfl, gA' 31 rfl rfl, gA' 6 rfl rfl, gA' 29 rfl rfl, gA' 7 rfl rfl, gA' 30 rfl rfl, gi, gi]; exact h4
      · unfold cNh cLt cLost cStow cBeg cSta cBook cAll
        simp only [gi, gB']; exact h5
      · unfold cTape; rw [gi, gi, gA' 8 rfl rfl, gA' 32 rfl rfl]; exact h6
      · unfold cFnd; rw [gA' 0 rfl rfl, gA' 33 rfl rfl]; exact h7
      · unfold cTry; rw [gi]; exact h8
  · exact fin h f5 (fun τ => f10_suns τ) (by unfold f9_suns; exact if_neg c) (by show f10_suns _ = _; unfold f10_suns; exact if_neg (fun q => c (by rw [e28]; exact q)))
