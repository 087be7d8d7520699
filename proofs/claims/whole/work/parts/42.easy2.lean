/-- both sides answer a finding -/
theorem fin {k : Nat} {σ : St} {c : Int32} (h : Rel k σ) (hc : five c) {F : Int32 × St} (G : St → Int32 × St) (ex : F = f9_answer σ c) (ey : G (f9_answer σ c).2 = f10_finding (f9_answer σ c).2 c) : Safe F.2 ∧ F.1 = (G F.2).1 ∧ Rel (k + 1) (G F.2).2 := by
  subst ex; exact ansR h hc rfl ey
theorem finL {k : Nat} {σ : St} {c : Int32} (h : Rel k σ) (hc : five c) {F : Int64 × St} (G : St → Int64 × St) (ex : F = (Int32.toInt64 (f9_answer σ c).1, (f9_answer σ c).2)) (ey : G (f9_answer σ c).2 = (Int32.toInt64 (f10_finding (f9_answer σ c).2 c).1, (f10_finding (f9_answer σ c).2 c).2)) : Safe F.2 ∧ F.1 = (G F.2).1 ∧ Rel (k + 1) (G F.2).2 := by
  subst ex; exact ansL h hc rfl ey
/-- both sides answer alike -/
theorem okk {α : Type} {k : Nat} {F : α × St} (G : St → α × St) {v w : α} {τ ρ : St} (ex : F = (v, τ)) (ey : G τ = (w, ρ)) (hs : Safe τ) (hv : v = w) (hr : Rel k ρ) : Safe F.2 ∧ F.1 = (G F.2).1 ∧ Rel k (G F.2).2 := by
  subst ex; dsimp only; rw [ey]; exact ⟨hs, hv, hr⟩
theorem pu_as (k : Nat) (σ : St) (a1 a2 : Int32) (h : Rel k σ) : Safe (f9_as σ a1 a2).2 ∧ (f9_as σ a1 a2).1 = (f10_as (f9_as σ a1 a2).2 a1 a2).1 ∧ Rel (k + 1) (f10_as (f9_as σ a1 a2).2 a1 a2).2 := by
  have er := row_eq h a1
  by_cases c1 : f9_isRow σ a1 = 0
  · exact fin h f1 (fun τ => f10_as τ a1 a2) (by unfold f9_as; exact if_pos c1) (by show f10_as _ _ _ = _; unfold f10_as; exact if_pos (er.trans c1))
  have n1 : ¬ f10_isRow σ a1 = 0 := fun q => c1 (er.symm.trans q)
  by_cases c2 : f9_isKind a2 = 0
  · exact fin h f1 (fun τ => f10_as τ a1 a2) (by unfold f9_as; exact (if_neg c1).trans (if_pos c2)) (by show f10_as _ _ _ = _; unfold f10_as; exact (if_neg n1).trans (if_pos (show f10_in a2 0 2 = 0 from c2)))
  have n2 : ¬ f10_in a2 0 2 = 0 := c2
  obtain ⟨hi, hlt⟩ := row_lt h.1 c1
  generalize hj : Int32.toNatClampNeg a1 = j at hlt
  have hr := (h.2.1.2 j hlt).1
  by_cases c3 : a2 = 0
  · refine okk (fun τ => f10_as τ a1 a2) (v := gA σ 15 j) (w := gA σ 25 j) (τ := σ) (ρ := σ) ?_ ?_ h.1 hr.2.2.2.2.2.1 h.up
    · unfold f9_as; rw [if_neg c1, if_neg c2, hj]
      exact if_neg (by unfold f3_isOf; rw [if_pos c3]; decide)
    · show f10_as _ _ _ = _
      unfold f10_as; rw [if_neg n1, if_neg n2, hj, if_pos c3]
  by_cases c4 : a2 = gA σ 10 j
  · refine okk (fun τ => f10_as τ a1 a2) (v := gA σ 15 j) (w := gA σ 25 j) (τ := σ) (ρ := σ) ?_ ?_ h.1 hr.2.2.2.2.2.1 h.up
    · unfold f9_as; rw [if_neg c1, if_neg c2, hj]
      exact if_neg (by unfold f3_isOf; rw [if_neg c3, if_pos c4]; decide)
    · show f10_as _ _ _ = _
      unfold f10_as; rw [if_neg n1, if_neg n2, hj, if_neg c3, if_pos (hr.1.symm.trans c4.symm)]
  · refine fin h f3 (fun τ => f10_as τ a1 a2) ?_ ?_
    · unfold f9_as; rw [if_neg c1, if_neg c2, hj]
      exact if_pos (by unfold f3_isOf; rw [if_neg c3, if_neg c4])
    · show f10_as _ _ _ = _
      unfold f10_as
      refine (if_neg n1).trans ((if_neg n2).trans ?_)
      rw [hj, if_neg c3]
      exact if_neg (fun q => c4 (q.symm.trans hr.1.symm))
theorem pu_about (k : Nat) (σ : St) (a1 a2 : Int32) (h : Rel k σ) : Safe (f9_about σ a1 a2).2 ∧ (f9_about σ a1 a2).1 = (f10_about (f9_about σ a1 a2).2 a1 a2).1 ∧ Rel (k + 1) (f10_about (f9_about σ a1 a2).2 a1 a2).2 := by
  have er := row_eq h a1
  by_cases c1 : f9_isRow σ a1 = 0
  · exact fin h f1 (fun τ => f10_about τ a1 a2) (by unfold f9_about; exact if_pos c1) (by show f10_about _ _ _ = _; unfold f10_about; exact if_pos (er.trans c1))
  have n1 : ¬ f10_isRow σ a1 = 0 := fun q => c1 (er.symm.trans q)
  obtain ⟨hi, hlt⟩ := row_lt h.1 c1
  generalize hj : Int32.toNatClampNeg a1 = j at hlt
  obtain ⟨r0, r1, r2, r3, r4, r5, r6⟩ := (h.2.1.2 j hlt).1
  have go : ∀ (v w : Int32), f9_about σ a1 a2 = (v, σ) → f10_about σ a1 a2 = (w, σ) → v = w → Safe (f9_about σ a1 a2).2 ∧ (f9_about σ a1 a2).1 = (f10_about (f9_about σ a1 a2).2 a1 a2).1 ∧ Rel (k + 1) (f10_about (f9_about σ a1 a2).2 a1 a2).2 := fun v w e1 e2 e3 => okk (fun τ => f10_about τ a1 a2) e1 e2 h.1 e3 h.up
  by_cases d0 : a2 = 0
  · subst d0; exact go _ _ (by unfold f9_about; rw [if_neg c1, hj]; rfl) (by unfold f10_about; rw [if_neg n1, hj]; rfl) r0
  by_cases d1 : a2 = 1
  · subst d1; exact go _ _ (by unfold f9_about; rw [if_neg c1, hj]; rfl) (by unfold f10_about; rw [if_neg n1, hj]; rfl) r1
  by_cases d2 : a2 = 2
  · subst d2; exact go _ _ (by unfold f9_about; rw [if_neg c1, hj]; rfl) (by unfold f10_about; rw [if_neg n1, hj]; rfl) r2
  by_cases d3 : a2 = 3
  · subst d3; exact go _ _ (by unfold f9_about; rw [if_neg c1, hj]; rfl) (by unfold f10_about; rw [if_neg n1, hj]; rfl) r3
  by_cases d4 : a2 = 4
  · subst d4; exact go _ _ (by unfold f9_about; rw [if_neg c1, hj]; rfl) (by unfold f10_about; rw [if_neg n1, hj]; rfl) r4
  by_cases d5 : a2 = 5
  · subst d5; exact go _ _ (by unfold f9_about; rw [if_neg c1, hj]; rfl) (by unfold f10_about; rw [if_neg n1, hj]; rfl) r5
  by_cases d6 : a2 = 6
  · subst d6; exact go _ _ (by unfold f9_about; rw [if_neg c1, hj]; rfl) (by unfold f10_about; rw [if_neg n1, hj]; rfl) r6
  · have z : f10_in a2 0 6 = 0 := by
      refine Classical.byContradiction (fun q => ?_)
      have t := mi_t q
      rw [lit_0, lit_6] at t
      rw [i_eq, lit_0] at d0; rw [i_eq, lit_1] at d1; rw [i_eq, lit_2] at d2; rw [i_eq, lit_3] at d3
      rw [i_eq, lit_4] at d4; rw [i_eq, lit_5] at d5; rw [i_eq, lit_6] at d6
      omega
    exact fin h f1 (fun τ => f10_about τ a1 a2) (by unfold f9_about; rw [if_neg c1, if_neg d0, if_neg d1, if_neg d2, if_neg d3, if_neg d4, if_neg d5, if_neg d6]) (by show f10_about _ _ _ = _; unfold f10_about; exact (if_neg n1).trans (if_pos z))
theorem pu_tell (k : Nat) (σ : St) (a1 : Int32) (h : Rel k σ) : Safe (f9_tell σ a1).2 ∧ (f9_tell σ a1).1 = (f10_tell (f9_tell σ a1).2 a1).1 ∧ Rel (k + 1) (f10_tell (f9_tell σ a1).2 a1).2 := by
  have e28 : gI σ 12 = gI σ 28 := h.2.2.2.2.2.1.1
  have hz := h.1.sz
  by_cases c1 : gI σ 12 < 72
  · have t1 := t_lt c1 rfl lit_72
    generalize hj : Int32.toNatClampNeg (gI σ 12) = j
    have hj2 : (j : Int) = (gI σ 12).toInt := by rw [← hj]; simp only [Int32.toNatClampNeg]; omega
    have e1 : (gI σ 12 + 1).toInt = (gI σ 12).toInt + 1 := i_add1 (b := 72) (by omega) (by omega)
    have ea : f6_append σ a1 = uI (uA σ 8 j a1) 12 (gI σ 12 + 1) := by unfold f6_append; rw [hj]; exact if_neg (fun q => by have := t_le q lit_72 rfl; omega)
    have hs1 : Safe (uI (uA σ 8 j a1) 12 (gI σ 12 + 1)) := sf_I12 (by omega) (sf_A (by decide) h.1)
    refine okk (fun τ => f10_tell τ a1) (v := gI σ 12 + 1) (w := gI σ 28 + 1) (τ := uI (uA σ 8 j a1) 12 (gI σ 12 + 1)) (ρ := uI (uA (uI (uA σ 8 j a1) 12 (gI σ 12 + 1)) 32 j a1) 28 (gI σ 28 + 1)) ?_ ?_ hs1 (by rw [e28]) ?_
    · unfold f9_tell; rw [if_pos c1, ea]; rfl
    · show f10_tell _ _ = _
      unfold f10_tell
      have e3 : gI (uI (uA σ 8 j a1) 12 (gI σ 12 + 1)) 28 = gI σ 12 := e28.symm
      rw [e3, hj, if_neg (fun q => by rw [q, lit_72] at t1; omega)]
      show (gI (uA (uI (uA σ 8 j a1) 12 (gI σ 12 + 1)) 32 j a1) 28 + 1, _) = _
      rfl
    · obtain ⟨h1, q2, h3, h4, h5, ⟨h6, h6b⟩, h7⟩ := h.up
      refine ⟨sf_I28 (by rw [← e28]; omega) (sf_A (by decide) hs1), q2, h3, h4, h5, ⟨?_, fun i hi => ?_⟩, h7⟩
      · show gI σ 12 + 1 = gI σ 28 + 1
        rw [e28]
      · show upd (gA σ 8) j a1 i = upd (gA σ 32) j a1 i
        have hi2 : (i : Int) < (gI σ 12 + 1).toInt := hi
        by_cases e : i = j
        · subst e; rw [upd_at, upd_at]
        · rw [upd_ne e, upd_ne e]; exact h6b i (by omega)
  · have t1 := t_nlt c1 rfl lit_72
    have z : gI σ 28 = 72 := by rw [← e28, i_eq, lit_72]; omega
    exact fin h f4 (fun τ => f10_tell τ a1) (by unfold f9_tell; exact if_neg c1) (by show f10_tell _ _ = _; unfold f10_tell; exact if_pos z)
theorem pu_book (k : Nat) (σ : St) (a1 : Int32) (h : Rel k σ) : Safe (f9_book σ a1).2 ∧ (f9_book σ a1).1 = (f10_book (f9_book σ a1).2 a1).1 ∧ Rel (k + 1) (f10_book (f9_book σ a1).2 a1).2 := by
  have e25 : gI σ 8 = gI σ 25 := h.2.2.2.2.1.2.2.2.2.1.1
  obtain ⟨b1, b2, b3⟩ : cBook σ := h.2.2.2.2.1.2.2.2.2.2.2.1
  by_cases c1 : gI σ 8 = 0
  · exact finL h f2 (fun τ => f10_book τ a1) (by unfold f9_book; exact if_pos c1) (by show f10_book _ _ = _; unfold f10_book; exact if_pos (e25.symm.trans c1))
  have n1 : ¬ gI σ 25 = 0 := fun q => c1 (e25.trans q)
  by_cases c2 : f9_isWithin a1 0 5 = 0
  · by_cases d6 : a1 = 6
    · subst d6
      exact okk (fun τ => f10_book τ 6) (v := Int32.toInt64 (gI σ 9)) (w := gB σ 10 6) (τ := σ) (ρ := σ) (by unfold f9_book; rw [if_neg c1]; rfl) (by show f10_book _ _ = _; unfold f10_book; rw [if_neg n1]; rfl) h.1 b2.symm h.up
    by_cases d7 : a1 = 7
    · subst d7
      exact okk (fun τ => f10_book τ 7) (v := Int32.toInt64 (gI σ 10)) (w := gB σ 10 7) (τ := σ) (ρ := σ) (by unfold f9_book; rw [if_neg c1]; rfl) (by show f10_book _ _ = _; unfold f10_book; rw [if_neg n1]; rfl) h.1 b3.symm h.up
    · have z : f10_in a1 0 7 = 0 := by
        refine Classical.byContradiction (fun q => ?_)
        have t := mi_t q
        rw [lit_0, lit_7] at t
        rw [i_eq, lit_6] at d6; rw [i_eq, lit_7] at d7
        unfold f9_isWithin at c2
        rw [if_neg (fun g => by have := t_lt g rfl lit_0; omega), if_neg (fun g => by have := t_lt g lit_5 rfl; omega)] at c2
        exact absurd c2 (by decide)
      exact finL h f1 (fun τ => f10_book τ a1) (by unfold f9_book; rw [if_neg c1, if_pos c2, if_neg d6, if_neg d7]) (by show f10_book _ _ = _; unfold f10_book; exact (if_neg n1).trans (if_pos z))
  · have t := wi_t c2
    rw [lit_0, lit_5] at t
    have z : ¬ f10_in a1 0 7 = 0 := by
      unfold f10_in
      rw [if_neg (fun g => by have := t_lt g rfl lit_0; omega), if_neg (fun g => by have := t_lt g lit_7 rfl; omega)]
      decide
    exact okk (fun τ => f10_book τ a1) (v := gB σ 2 (Int32.toNatClampNeg a1)) (w := gB σ 10 (Int32.toNatClampNeg a1)) (τ := σ) (ρ := σ) (by unfold f9_book; rw [if_neg c1, if_neg c2]) (by show f10_book _ _ = _; unfold f10_book; rw [if_neg n1, if_neg z]) h.1 (b1 _ (vlt (wi5_in c2))) h.up
theorem chk9 (to : Int32) (σ : St) : ∀ (n : Nat) (j : Int32), (f9_check_L to n σ j).2 = σ
  | 0, _ => rfl
  | n + 1, j => by unfold f9_check_L; repeat' split
                   all_goals first | rfl | exact chk9 to σ n _
theorem chk10 (to : Int32) (σ : St) : ∀ (n : Nat) (j : Int32), (f10_check_L to n σ j).2 = σ
  | 0, _ => rfl
  | n + 1, j => by unfold f10_check_L; repeat' split
                   all_goals first | rfl | exact chk10 to σ n _
theorem chkE (to : Int32) (σ τ : St) (H : ∀ j : Int32, 0 ≤ j.toInt → ¬ (6 : Int32) ≤ j → ¬ to ≤ j → gA σ 8 (Int32.toNatClampNeg j) = gA τ 32 (Int32.toNatClampNeg j) ∧ gB σ 2 (Int32.toNatClampNeg j) = gB τ 10 (Int32.toNatClampNeg j)) : ∀ (n : Nat) (j : Int32), 0 ≤ j.toInt → (f9_check_L to n σ j).1 = (f10_check_L to n τ j).1
  | 0, _, _ => rfl
  | n + 1, j, hj => by
    unfold f9_check_L f10_check_L
    by_cases c1 : (6 : Int32) ≤ j
    · rw [if_pos c1, if_pos c1]; split <;> rfl
    rw [if_neg c1, if_neg c1]
    by_cases c2 : to ≤ j
    · rw [if_pos c2, if_pos c2]
    rw [if_neg c2, if_neg c2]
    obtain ⟨e1, e2⟩ := H j hj c1 c2
    rw [e1, e2]
    split
    · have t := t_nle c1 lit_6 rfl
      exact chkE to σ τ H n _ (by rw [i_add1 (b := 6) (by omega) (by omega)]; omega)
    · rfl
theorem pu_check (k : Nat) (σ : St) (h : Rel k σ) : Safe (f9_check σ).2 ∧ (f9_check σ).1 = (f10_check (f9_check σ).2).1 ∧ Rel (k + 1) (f10_check (f9_check σ).2).2 := by
  have e25 : gI σ 8 = gI σ 25 := h.2.2.2.2.1.2.2.2.2.1.1
  have e28 : gI σ 12 = gI σ 28 := h.2.2.2.2.2.1.1
  obtain ⟨b1, b2, b3⟩ : cBook σ := h.2.2.2.2.1.2.2.2.2.2.2.1
  have tp := h.2.2.2.2.2.1.2
  have hs1 : Safe (uI σ 12 0) := sf_I12 (by rw [lit_0]; omega) h.1
  have hr : ∀ q, Rel q σ → Rel q (uI (uI σ 12 0) 28 0) := fun q h => by
    obtain ⟨h1, q2, h3, h4, h5, h6, h7⟩ := h
    exact ⟨sf_I28 (by rw [lit_0]; omega) hs1, q2, h3, h4, h5, ⟨rfl, fun i hi => by have hi2 : (i : Int) < (0 : Int32).toInt := hi; rw [lit_0] at hi2; omega⟩, h7⟩
  by_cases c1 : gI σ 8 = 0
  · have ex : f9_check σ = f9_answer (uI σ 12 0) (-1000000002) := by unfold f9_check; exact if_pos c1
    have ey : f10_check (f9_answer (uI σ 12 0) (-1000000002)).2 = f10_finding (f9_answer (uI (uI σ 12 0) 28 0) (-1000000002)).2 (-1000000002) := by unfold f10_check; exact if_pos (e25.symm.trans c1)
    obtain ⟨x1, x2, x3⟩ := ansR (hr k h) f2 rfl rfl
    rw [ex, ey]
    exact ⟨sX9_answer hs1, rfl, x3⟩
  · have ex : f9_check σ = f9_check_L (gI σ 12) 7 (uI σ 12 0) 0 := by unfold f9_check; exact if_neg c1
    have e2 := chk9 (gI σ 12) (uI σ 12 0) 7 0
    have ey : f10_check (uI σ 12 0) = f10_check_L (gI σ 28) 7 (uI (uI σ 12 0) 28 0) 0 := by unfold f10_check; exact if_neg (fun q => c1 (e25.trans q))
    rw [ex, e2, ey, chk10]
    refine ⟨hs1, ?_, hr _ h.up⟩
    rw [← e28]
    refine chkE _ _ _ (fun j hj g1 g2 => ?_) 7 0 (by rw [lit_0]; omega)
    have t1 := t_nle g1 lit_6 rfl
    have t2 := t_nle g2 rfl rfl
    have e3 : (Int32.toNatClampNeg j : Int) = j.toInt := by simp only [Int32.toNatClampNeg]; omega
    exact ⟨tp _ (by omega), b1 _ (by omega)⟩
