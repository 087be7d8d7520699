theorem pu_wind (k : Nat) (σ : St) (a1 a2 : Int32) (h : Rel k σ) : Safe (f9_wind σ a1 a2).2 ∧ (f9_wind σ a1 a2).1 = (f10_wind (f9_wind σ a1 a2).2 a1 a2).1 ∧ Rel (k + 1) (f10_wind (f9_wind σ a1 a2).2 a1 a2).2 := by
  by_cases c1 : f9_isHour a1 = 0
  · have ex : f9_wind σ a1 a2 = f9_answer σ (-1000000001) := by unfold f9_wind; rw [if_pos c1]
    exact ansR h f1 ex (by rw [ex]; unfold f10_wind; rw [if_pos (show f10_isHour a1 = 0 from c1)])
  by_cases c2 : f9_isWithin a2 (-1) 200 = 0
  · have ex : f9_wind σ a1 a2 = f9_answer σ (-1000000001) := by unfold f9_wind; rw [if_neg c1, if_pos c2]
    exact ansR h f1 ex (by rw [ex]; unfold f10_wind; rw [if_neg (show ¬ f10_isHour a1 = 0 from c1), if_pos (show f10_in a2 (-1) 200 = 0 from c2)])
  · have hi := vlt (isHour_in c1)
    generalize hj : Int32.toNatClampNeg a1 = j at hi
    have ex : f9_wind σ a1 a2 = ((if a2 = -1 then 0 else 1), uA σ 6 j a2) := by unfold f9_wind; rw [if_neg c1, if_neg c2, hj]; split <;> rfl
    have ey : f10_wind (uA σ 6 j a2) a1 a2 = ((if a2 = -1 then 0 else 1), uA (uA σ 6 j a2) 29 j a2) := by unfold f10_wind; rw [if_neg (show ¬ f10_isHour a1 = 0 from c1), if_neg (show ¬ f10_in a2 (-1) 200 = 0 from c2), hj]; split <;> rfl
    rw [ex]; dsimp only; rw [ey]
    have h2 := wi_t c2
    rw [lit_m1, lit_200] at h2
    obtain ⟨h1, q2, h3, ⟨b1, b2, b3⟩, h5⟩ := h.up
    refine ⟨sf_A (by decide) h.1, rfl, sf_A (by decide) (sf_A (by decide) h.1), q2, h3, ⟨b1, fun i hi2 => ?_, b3⟩, h5⟩
    show upd (gA σ 6) j a2 i = upd (gA σ 29) j a2 i ∧ -1 ≤ (upd (gA σ 6) j a2 i).toInt ∧ (upd (gA σ 6) j a2 i).toInt ≤ 200
    by_cases e : i = j
    · subst e; rw [upd_at, upd_at]; exact ⟨rfl, h2⟩
    · rw [upd_ne e, upd_ne e]; exact b2 i hi2
theorem nar_b {a : Int32} (h : a = 0 ∨ a = 1) : vp_nar .boolean a = a := by rcases h with rfl | rfl <;> decide +kernel
theorem pu_cleaning (k : Nat) (σ : St) (a1 a2 : Int32) (hb : a2 = 0 ∨ a2 = 1) (h : Rel k σ) : Safe (f9_cleaning σ a1 a2).2 ∧ (f9_cleaning σ a1 a2).1 = (f10_cleaning (f9_cleaning σ a1 a2).2 a1 a2).1 ∧ Rel (k + 1) (f10_cleaning (f9_cleaning σ a1 a2).2 a1 a2).2 := by
  by_cases c1 : f9_isHour a1 = 0
  · have ex : f9_cleaning σ a1 a2 = f9_answer σ (-1000000001) := by unfold f9_cleaning; rw [if_pos c1]
    exact ansR h f1 ex (by rw [ex]; unfold f10_cleaning; rw [if_pos (show f10_isHour a1 = 0 from c1)])
  · have hi := vlt (isHour_in c1)
    generalize hj : Int32.toNatClampNeg a1 = j at hi
    obtain ⟨h1, q2, h3, ⟨b1, b2, b3, b4⟩, h5⟩ := h.up
    have e30 : gA σ 7 j = gA σ 30 j := (b3 j hi).1
    have ex : f9_cleaning σ a1 a2 = ((if gA σ 7 j = a2 then 0 else 1), uA σ 7 j a2) := by
      unfold f9_cleaning; rw [if_neg c1, hj, nar_b hb]
      split
      · rw [if_pos rfl]
      · rw [if_neg (by decide)]
    have ey : f10_cleaning (uA σ 7 j a2) a1 a2 = ((if gA σ 30 j = a2 then 0 else 1), uA (uA σ 7 j a2) 30 j a2) := by
      unfold f10_cleaning; rw [if_neg (show ¬ f10_isHour a1 = 0 from c1), hj, nar_b hb]
      show (if gA σ 30 j = a2 then _ else _) = _
      split <;> rfl
    rw [ex]; dsimp only; rw [ey]
    refine ⟨sf_A (by decide) h.1, by rw [e30], sf_A (by decide) (sf_A (by decide) h.1), q2, h3, ⟨b1, b2, fun i hi2 => ?_, b4⟩, h5⟩
    show upd (gA σ 7) j a2 i = upd (gA σ 30) j a2 i ∧ (upd (gA σ 7) j a2 i = 0 ∨ upd (gA σ 7) j a2 i = 1)
    by_cases e : i = j
    · subst e; rw [upd_at, upd_at]; exact ⟨rfl, hb⟩
    · rw [upd_ne e, upd_ne e]; exact b3 i hi2
theorem way_t {a b c : Int32} (h : ¬ f9_isSunWay a b c = 0) : vp_in a 24 ∧ (-1000 ≤ b.toInt ∧ b.toInt ≤ 1000) ∧ (0 ≤ c.toInt ∧ c.toInt ≤ 1000) := by
  refine ⟨isSunWay_in h, ?_, ?_⟩
  all_goals
    unfold f9_isSunWay at h
    split at h
    · exact absurd rfl h
    · split at h
      · exact absurd rfl h
      · rename_i h2
        split at h
        · exact absurd rfl h
        · rename_i h3
          first
            | (have q := wi_t h2; rw [lit_m1000, lit_1000] at q; exact q)
            | (have q := wi_t h3; rw [lit_0, lit_1000] at q; exact q)
theorem setSun_Rel {k : Nat} {σ : St} {a b c : Int32} (h : Rel k σ) (hw : ¬ f9_isSunWay a b c = 0) : Rel k (f10_setSun (f4_put σ a b c) a b c) := by
  obtain ⟨w1, w2, w3⟩ := way_t hw
  have hs : Safe (f10_setSun (f4_put σ a b c) a b c) := sX10_setSun (sX4_put h.1)
  obtain ⟨h1, q2, h3, h4⟩ := h
  refine ⟨hs, q2, fun i hi => ?_, h4⟩
  generalize hj : Int32.toNatClampNeg a = j
  have e2 : gA (f10_setSun (f4_put σ a b c) a b c) 2 i = upd (gA σ 2) j b i := by rw [← hj]; rfl
  have e3 : gA (f10_setSun (f4_put σ a b c) a b c) 3 i = upd (gA σ 3) j c i := by rw [← hj]; rfl
  have e27 : gA (f10_setSun (f4_put σ a b c) a b c) 27 i = upd (gA σ 27) j b i := by rw [← hj]; rfl
  have e28 : gA (f10_setSun (f4_put σ a b c) a b c) 28 i = upd (gA σ 28) j c i := by rw [← hj]; rfl
  rw [e2, e3, e27, e28]
  by_cases e : i = j
  · subst e; rw [upd_at, upd_at, upd_at, upd_at]; exact ⟨⟨rfl, rfl⟩, w2, w3⟩
  · rw [upd_ne e, upd_ne e, upd_ne e, upd_ne e]; exact h3 i hi
theorem pu_sun (k : Nat) (σ : St) (a1 a2 a3 : Int32) (h : Rel k σ) : Safe (f9_sun σ a1 a2 a3).2 ∧ (f9_sun σ a1 a2 a3).1 = (f10_sun (f9_sun σ a1 a2 a3).2 a1 a2 a3).1 ∧ Rel (k + 1) (f10_sun (f9_sun σ a1 a2 a3).2 a1 a2 a3).2 := by
  by_cases c1 : f9_isSunWay a1 a2 a3 = 0
  · have ex : f9_sun σ a1 a2 a3 = f9_answer σ (-1000000001) := by unfold f9_sun; rw [if_pos c1]
    exact ansR h f1 ex (by rw [ex]; unfold f10_sun; rw [if_pos (show f10_isSun a1 a2 a3 = 0 from c1)])
  · obtain ⟨w1, w2, w3⟩ := way_t c1
    have en : f4_isNight (f4_put σ a1 a2 a3) a1 = if a3 = 0 then 1 else 0 := by
      unfold f4_isNight
      have e : gA (f4_put σ a1 a2 a3) 3 (Int32.toNatClampNeg a1) = a3 := upd_at
      rw [e]
    have ex : f9_sun σ a1 a2 a3 = ((if a3 = 0 then 0 else 1), f4_put σ a1 a2 a3) := by
      unfold f9_sun; rw [if_neg c1, en]
      by_cases e : a3 = 0
      · rw [if_pos e, if_pos e, if_neg (by decide)]
      · rw [if_neg e, if_neg e, if_pos rfl]
    have ey : f10_sun (f4_put σ a1 a2 a3) a1 a2 a3 = ((if a3 = 0 then 0 else 1), f10_setSun (f4_put σ a1 a2 a3) a1 a2 a3) := by
      unfold f10_sun; rw [if_neg (show ¬ f10_isSun a1 a2 a3 = 0 from c1)]
      by_cases e : a3 = 0
      · rw [if_pos (by rw [e]; decide), if_pos e]
      · rw [if_neg (fun q => e (by have := t_le q rfl lit_0; rw [i_eq, lit_0]; omega)), if_neg e]
    rw [ex]; dsimp only; rw [ey]
    exact ⟨sX4_put h.1, rfl, setSun_Rel h.up c1⟩
theorem pu_drop (k : Nat) (σ : St) (h : Rel k σ) : Safe (f9_drop σ).2 ∧ (f9_drop σ).1 = (f10_drop (f9_drop σ).2).1 ∧ Rel (k + 1) (f10_drop (f9_drop σ).2).2 := by
  have e20 : gI σ 2 = gI σ 20 := h.2.1.1
  have hc := h.1.cnt
  by_cases c1 : 0 < gI σ 2
  · have t1 := t_lt c1 lit_0 rfl
    have ex : f9_drop σ = (gI σ 2 - 1, uI σ 2 (gI σ 2 - 1)) := by unfold f9_drop; rw [if_pos c1]; rfl
    have ey : f10_drop (uI σ 2 (gI σ 2 - 1)) = (gI σ 20 - 1, uI (uI σ 2 (gI σ 2 - 1)) 20 (gI σ 20 - 1)) := by
      unfold f10_drop
      rw [if_neg (show ¬ gI (uI σ 2 (gI σ 2 - 1)) 20 = 0 from fun q => by rw [e20, show gI σ 20 = 0 from q, lit_0] at t1; omega)]; rfl
    have e3 : (gI σ 2 - 1).toInt = (gI σ 2).toInt - 1 := by rw [i_sub (by rw [lit_1]; omega) (by rw [lit_1]; omega), lit_1]
    rw [ex]; dsimp only; rw [ey]
    obtain ⟨h1, ⟨q2, q3⟩, h3⟩ := h.up
    refine ⟨sf_I2 (by omega) h.1, by rw [e20], sf_I20 (by rw [← e20]; omega) (sf_I2 (by omega) h.1), ⟨?_, fun i hi => q3 i ?_⟩, h3⟩
    · show gI σ 2 - 1 = gI σ 20 - 1
      rw [e20]
    · have hi2 : (i : Int) < (gI σ 2 - 1).toInt := hi
      omega
  · have ex : f9_drop σ = f9_answer σ (-1000000002) := by unfold f9_drop; rw [if_neg c1]
    have t1 := t_nlt c1 lit_0 rfl
    have z : gI σ 20 = 0 := by rw [← e20, i_eq, lit_0]; omega
    exact ansR h f2 ex (by rw [ex]; unfold f10_drop; rw [if_pos (show gI (f9_answer σ (-1000000002)).2 20 = 0 from z)])
/-- a row's field is set on both sides -/
theorem setRow4 {k : Nat} {σ : St} {j : Nat} {v : Int32} (h : Rel k σ) (hv : 0 ≤ v.toInt ∧ v.toInt ≤ 1000) : Rel k (uA (uA σ 14 j v) 24 j v) := by
  obtain ⟨h1, ⟨q2, q3⟩, h3⟩ := h
  refine ⟨sf_A (by decide) (sf_A (by decide) h1), ⟨q2, fun i hi => ?_⟩, h3⟩
  obtain ⟨⟨r1, r2, r3, r4, r5, r6, r7⟩, s1, s2, s3, s4, s5, s6⟩ := q3 i hi
  have e1 : gA (uA (uA σ 14 j v) 24 j v) 14 i = upd (gA σ 14) j v i := rfl
  have e2 : gA (uA (uA σ 14 j v) 24 j v) 24 i = upd (gA σ 24) j v i := rfl
  refine ⟨⟨r1, r2, r3, r4, ?_, r6, r7⟩, s1, s2, s3, s4, ?_, s6⟩
  · rw [e1, e2]
    by_cases e : i = j
    · subst e; rw [upd_at, upd_at]
    · rw [upd_ne e, upd_ne e]; exact r5
  · rw [e1]
    by_cases e : i = j
    · subst e; rw [upd_at]; exact hv
    · rw [upd_ne e]; exact s5
theorem setRow5 {k : Nat} {σ : St} {j : Nat} {v : Int32} (h : Rel k σ) (hv : -12 ≤ v.toInt ∧ v.toInt ≤ 12) : Rel k (uA (uA σ 15 j v) 25 j v) := by
  obtain ⟨h1, ⟨q2, q3⟩, h3⟩ := h
  refine ⟨sf_A (by decide) (sf_A15 hv h1), ⟨q2, fun i hi => ?_⟩, h3⟩
  obtain ⟨⟨r1, r2, r3, r4, r5, r6, r7⟩, s⟩ := q3 i hi
  have e1 : gA (uA (uA σ 15 j v) 25 j v) 15 i = upd (gA σ 15) j v i := rfl
  have e2 : gA (uA (uA σ 15 j v) 25 j v) 25 i = upd (gA σ 25) j v i := rfl
  refine ⟨⟨r1, r2, r3, r4, r5, ?_, r7⟩, s⟩
  rw [e1, e2]
  by_cases e : i = j
  · subst e; rw [upd_at, upd_at]
  · rw [upd_ne e, upd_ne e]; exact r6
theorem setRow6 {k : Nat} {σ : St} {j : Nat} {v : Int32} (h : Rel k σ) (hv : -1 ≤ v.toInt ∧ v.toInt ≤ 3) : Rel k (uA (uA σ 16 j v) 26 j v) := by
  obtain ⟨h1, ⟨q2, q3⟩, h3⟩ := h
  refine ⟨sf_A (by decide) (sf_A (by decide) h1), ⟨q2, fun i hi => ?_⟩, h3⟩
  obtain ⟨⟨r1, r2, r3, r4, r5, r6, r7⟩, s1, s2, s3, s4, s5, s6⟩ := q3 i hi
  have e1 : gA (uA (uA σ 16 j v) 26 j v) 16 i = upd (gA σ 16) j v i := rfl
  have e2 : gA (uA (uA σ 16 j v) 26 j v) 26 i = upd (gA σ 26) j v i := rfl
  refine ⟨⟨r1, r2, r3, r4, r5, r6, ?_⟩, s1, s2, s3, s4, s5, ?_⟩
  · rw [e1, e2]
    by_cases e : i = j
    · subst e; rw [upd_at, upd_at]
    · rw [upd_ne e, upd_ne e]; exact r7
  · rw [e1]
    by_cases e : i = j
    · subst e; rw [upd_at]; exact hv
    · rw [upd_ne e]; exact s6
theorem pu_dust (k : Nat) (σ : St) (a1 a2 : Int32) (h : Rel k σ) : Safe (f9_dust σ a1 a2).2 ∧ (f9_dust σ a1 a2).1 = (f10_dust (f9_dust σ a1 a2).2 a1 a2).1 ∧ Rel (k + 1) (f10_dust (f9_dust σ a1 a2).2 a1 a2).2 := by
  have er := row_eq h a1
  by_cases c1 : f9_isRow σ a1 = 0
  · have ex : f9_dust σ a1 a2 = f9_answer σ (-1000000001) := by unfold f9_dust; rw [if_pos c1]
    exact ansR h f1 ex (by rw [ex]; unfold f10_dust; rw [if_pos (show f10_isRow (f9_answer σ (-1000000001)).2 a1 = 0 from er.trans c1)])
  by_cases c2 : f9_isWithin a2 0 1000 = 0
  · have ex : f9_dust σ a1 a2 = f9_answer σ (-1000000001) := by unfold f9_dust; rw [if_neg c1, if_pos c2]
    exact ansR h f1 ex (by rw [ex]; unfold f10_dust; rw [if_neg (show ¬ f10_isRow (f9_answer σ (-1000000001)).2 a1 = 0 from fun q => c1 (er.symm.trans q)), if_pos (show f10_in a2 0 1000 = 0 from c2)])
  · obtain ⟨hi, hlt⟩ := row_lt h.1 c1
    generalize hj : Int32.toNatClampNeg a1 = j at hlt
    have ex : f9_dust σ a1 a2 = (gA σ 14 j, uA σ 14 j a2) := by unfold f9_dust; rw [if_neg c1, if_neg c2, hj]
    have ey : f10_dust (uA σ 14 j a2) a1 a2 = (gA σ 24 j, uA (uA σ 14 j a2) 24 j a2) := by unfold f10_dust; rw [if_neg (show ¬ f10_isRow (uA σ 14 j a2) a1 = 0 from fun q => c1 (er.symm.trans q)), if_neg (show ¬ f10_in a2 0 1000 = 0 from c2), hj]; rfl
    rw [ex]; dsimp only; rw [ey]
    have h2 := wi_t c2
    rw [lit_0, lit_1000] at h2
    exact ⟨sf_A (by decide) h.1, (h.2.1.2 j hlt).1.2.2.2.2.1, setRow4 h.up h2⟩
theorem pu_turn (k : Nat) (σ : St) (a1 a2 : Int32) (h : Rel k σ) : Safe (f9_turn σ a1 a2).2 ∧ (f9_turn σ a1 a2).1 = (f10_turn (f9_turn σ a1 a2).2 a1 a2).1 ∧ Rel (k + 1) (f10_turn (f9_turn σ a1 a2).2 a1 a2).2 := by
  have er := row_eq h a1
  by_cases c1 : f9_isRow σ a1 = 0
  · have ex : f9_turn σ a1 a2 = f9_answer σ (-1000000001) := by unfold f9_turn; rw [if_pos c1]
    exact ansR h f1 ex (by rw [ex]; unfold f10_turn; rw [if_pos (show f10_isRow (f9_answer σ (-1000000001)).2 a1 = 0 from er.trans c1)])
  have n1 : ¬ f10_isRow σ a1 = 0 := fun q => c1 (er.symm.trans q)
  by_cases c2 : f9_isStep a2 = 0
  · have ex : f9_turn σ a1 a2 = f9_answer σ (-1000000001) := by unfold f9_turn; rw [if_neg c1, if_pos c2]
    exact ansR h f1 ex (by rw [ex]; unfold f10_turn; rw [if_neg (show ¬ f10_isRow (f9_answer σ (-1000000001)).2 a1 = 0 from n1), if_pos (show f10_isStep a2 = 0 from c2)])
  · obtain ⟨hi, hlt⟩ := row_lt h.1 c1
    generalize hj : Int32.toNatClampNeg a1 = j at hlt
    have hr := (h.2.1.2 j hlt).1
    by_cases c3 : gA σ 10 j = 1
    · have ex : f9_turn σ a1 a2 = f9_answer σ (-1000000003) := by unfold f9_turn; rw [if_neg c1, if_neg c2, hj, if_pos c3]
      exact ansR h f3 ex (by rw [ex]; unfold f10_turn; rw [if_neg (show ¬ f10_isRow (f9_answer σ (-1000000003)).2 a1 = 0 from n1), if_neg (show ¬ f10_isStep a2 = 0 from c2), hj, if_pos (show gA (f9_answer σ (-1000000003)).2 20 j = 1 from hr.1.symm.trans c3)])
    · have ex : f9_turn σ a1 a2 = (gA σ 15 j, uA σ 15 j a2) := by unfold f9_turn; rw [if_neg c1, if_neg c2, hj, if_neg c3]
      have ey : f10_turn (uA σ 15 j a2) a1 a2 = (gA σ 25 j, uA (uA σ 15 j a2) 25 j a2) := by unfold f10_turn; rw [if_neg (show ¬ f10_isRow (uA σ 15 j a2) a1 = 0 from n1), if_neg (show ¬ f10_isStep a2 = 0 from c2), hj, if_neg (show ¬ gA (uA σ 15 j a2) 20 j = 1 from fun q => c3 (hr.1.trans q))]; rfl
      rw [ex]; dsimp only; rw [ey]
      exact ⟨sf_A15 (isStep_rg c2) h.1, hr.2.2.2.2.2.1, setRow5 h.up (isStep_rg c2)⟩
theorem pu_string (k : Nat) (σ : St) (a1 a2 : Int32) (h : Rel k σ) : Safe (f9_string σ a1 a2).2 ∧ (f9_string σ a1 a2).1 = (f10_string (f9_string σ a1 a2).2 a1 a2).1 ∧ Rel (k + 1) (f10_string (f9_string σ a1 a2).2 a1 a2).2 := by
  have er := row_eq h a1
  by_cases c1 : f9_isRow σ a1 = 0
  · have ex : f9_string σ a1 a2 = f9_answer σ (-1000000001) := by unfold f9_string; rw [if_pos c1]
    exact ansR h f1 ex (by rw [ex]; unfold f10_string; rw [if_pos (show f10_isRow (f9_answer σ (-1000000001)).2 a1 = 0 from er.trans c1)])
  have n1 : ¬ f10_isRow σ a1 = 0 := fun q => c1 (er.symm.trans q)
  by_cases c2 : f9_isWithin a2 (-1) 3 = 0
  · have ex : f9_string σ a1 a2 = f9_answer σ (-1000000001) := by unfold f9_string; rw [if_neg c1, if_pos c2]
    have q1 : ¬ a2 = -1 := fun q => by rw [q] at c2; exact absurd c2 (by decide +kernel)
    have q2 : f10_isString a2 = 0 := by
      unfold f9_isWithin at c2
      show f10_in a2 0 3 = 0
      unfold f10_in
      split
      · rfl
      · rename_i g1
        have t1 := t_nlt g1 rfl lit_0
        rw [if_neg (fun g => by have := t_lt g rfl lit_m1; omega)] at c2
        split at c2
        · rename_i g2; rw [if_pos g2]
        · exact absurd c2 (by decide)
    exact ansR h f1 ex (by rw [ex]; unfold f10_string; rw [if_neg (show ¬ f10_isRow (f9_answer σ (-1000000001)).2 a1 = 0 from n1), if_neg q1, if_pos q2])
  · obtain ⟨hi, hlt⟩ := row_lt h.1 c1
    generalize hj : Int32.toNatClampNeg a1 = j at hlt
    have h2 := wi_t c2
    rw [lit_m1, lit_3] at h2
    have ex : f9_string σ a1 a2 = (gA σ 16 j, uA σ 16 j a2) := by unfold f9_string; rw [if_neg c1, if_neg c2, hj]
    have ey : f10_string (uA σ 16 j a2) a1 a2 = (gA σ 26 j, uA (uA σ 16 j a2) 26 j a2) := by
      unfold f10_string; rw [if_neg (show ¬ f10_isRow (uA σ 16 j a2) a1 = 0 from n1), hj]
      by_cases q1 : a2 = -1
      · rw [if_pos q1]; rfl
      · rw [if_neg q1, if_neg ?_]
        · rfl
        · show ¬ f10_in a2 0 3 = 0
          unfold f10_in
          have t1 : ¬ a2.toInt = -1 := t_neq q1 rfl lit_m1
          rw [if_neg (fun g => by have := t_lt g rfl lit_0; omega), if_neg (fun g => by have := t_lt g lit_3 rfl; omega)]
          decide
    rw [ex]; dsimp only; rw [ey]
    exact ⟨sf_A (by decide) h.1, (h.2.1.2 j hlt).1.2.2.2.2.2.2, setRow6 h.up h2⟩
