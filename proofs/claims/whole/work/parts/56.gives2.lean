theorem i4_m : ∀ k, mI k = true → i4 k = true := fun k hk => by
  unfold mI at hk; unfold i4
  simp only [Bool.or_eq_true, beq_iff_eq] at hk
  simp only [bne_iff_ne, ne_eq]
  omega
theorem i4_s : ∀ k, sI k = true → i4 k = true := fun k hk => by
  unfold sI at hk; unfold i4
  simp only [Bool.and_eq_true] at hk
  exact hk.1.1.1.2
theorem a5_m : ∀ k, mA k = true → a5 k = true := fun k hk => by
  unfold mA at hk; unfold a5
  simp only [Bool.or_eq_true, beq_iff_eq] at hk
  simp only [bne_iff_ne, ne_eq]
  omega
theorem a5_s : ∀ k, sA k = true → a5 k = true := fun k hk => by
  unfold sA at hk; unfold a5
  simp only [Bool.and_eq_true] at hk
  exact hk.2
theorem b12_s : ∀ k, sB k = true → b12 k = true := fun k hk => by
  unfold sB at hk; unfold b12
  simp only [Bool.and_eq_true] at hk
  exact hk.2
theorem pu_gives (k : Nat) (σ : St) (a1 a2 : Int32) (h : Rel k σ) : Safe (f9_gives σ a1 a2).2 ∧ (f9_gives σ a1 a2).1 = (f10_gives (f9_gives σ a1 a2).2 a1 a2).1 ∧ Rel (k + 1) (f10_gives (f9_gives σ a1 a2).2 a1 a2).2 := by
  by_cases c1 : f9_isString a1 = 0
  · exact fin h f1 (fun τ => f10_gives τ a1 a2) (by unfold f9_gives; exact if_pos c1) (by show f10_gives _ _ _ = _; unfold f10_gives; exact if_pos (show f10_isString a1 = 0 from c1))
  have n1 : ¬ f10_isString a1 = 0 := c1
  by_cases c2 : f9_isHour a2 = 0
  · exact fin h f1 (fun τ => f10_gives τ a1 a2) (by unfold f9_gives; exact (if_neg c1).trans (if_pos c2)) (by show f10_gives _ _ _ = _; unfold f10_gives; exact (if_neg n1).trans (if_pos (show f10_isHour a2 = 0 from c2)))
  have n2 : ¬ f10_isHour a2 = 0 := c2
  have hi := isHour_in c2
  have en := night_eq h hi
  by_cases c3 : f4_isNight σ a2 = 0
  · have hr := lookFrom_Rel h.up hi
    have sp := lookFrom_spec h hi
    have hsρ : Safe (f0_weighAll (f9_lookFrom σ a2)) := sX0_weighAll hr.1
    have hsκ : Safe (f5_rank (f0_weighAll (f9_lookFrom σ a2)) a1) := sX5_rank hsρ
    have hcnt := hr.1.cnt
    obtain ⟨c, hc⟩ : ∃ c : Nat, (c : Int) = (gI (f9_lookFrom σ a2) 2).toInt := ⟨(gI (f9_lookFrom σ a2) 2).toInt.toNat, by omega⟩
    have hd0 : ∀ i : Nat, (i : Int) < (gI (f9_lookFrom σ a2) 2).toInt → gA (f9_lookFrom σ a2) 14 i = gA (f9_lookFrom σ a2) 24 i := fun i hi => (hr.2.1.2 i hi).1.2.2.2.2.1
    obtain ⟨-, g1, -, -⟩ := weighAll_spec (τ := f9_lookFrom σ a2) (a := a2) 11 (f9_lookFrom σ a2) 0 (JN_of h hi (Ag.rf _) hr.1) hd0 (by rw [lit_0]; omega) (by rw [lit_0]; omega) (by rw [lit_0]; omega)
    have g1' : Ag i13 aN1 bW (f9_lookFrom σ a2) (f0_weighAll (f9_lookFrom σ a2)) := g1
    have hcρ : (c : Int) = (gI (f0_weighAll (f9_lookFrom σ a2)) 2).toInt := by rw [g1'.1 2 rfl]; exact hc
    obtain ⟨m, -, g2⟩ := rank_spec (s := a1) hcρ (by omega)
    have m1 : Ag mI mA mB (f9_lookFrom σ a2) (f5_rank (f0_weighAll (f9_lookFrom σ a2)) a1) := (g1'.mono i13_m aN1_m mB_x).tr (g2.mono i4_m a5_m mB_x)
    have m2 : Ag sI sA sB (f9_lookFrom σ a2) (f5_rank (f0_weighAll (f9_lookFrom σ a2)) a1) := (g1'.mono i13_s aN1_s bW_s).tr (g2.mono i4_s a5_s (fun _ _ => rfl))
    have J := JN_of h hi m1 hsκ
    obtain ⟨-, -, w3, -⟩ := weighAll_spec (τ := f5_rank (f0_weighAll (f9_lookFrom σ a2)) a1) (a := a2) 11 (f9_lookFrom σ a2) 0 J (fun i hi => by rw [m1.2.1 24 rfl]; exact hd0 i hi) (by rw [lit_0]; omega) (by rw [lit_0]; omega) (by rw [lit_0]; omega)
    have hR : ∀ i, i < c → 0 ≤ (f10_currentOf (f5_rank (f0_weighAll (f9_lookFrom σ a2)) a1) (nI i) a2).toInt ∧ (f10_currentOf (f5_rank (f0_weighAll (f9_lookFrom σ a2)) a1) (nI i) a2).toInt ≤ 2000000 := fun i hi => by
      have e1 := nI_t10 (i := i) (by omega)
      have eN := N_nI (i := i) (by omega)
      refine (cur_rg J (r := nI i) (by omega) (by omega) ?_).2.2
      rw [eN, m1.2.1 24 rfl, ← hd0 i (by omega)]
      exact (hr.2.1.2 i (by omega)).2.2.2.2.2.1
    have e20 : gI (f5_rank (f0_weighAll (f9_lookFrom σ a2)) a1) 20 = gI (f9_lookFrom σ a2) 2 := (m1.1 20 rfl).trans (Eq.symm hr.2.1.1)
    obtain ⟨⟨b1, b2, b3⟩, -, -, b4⟩ := gives_eq (ρ := f0_weighAll (f9_lookFrom σ a2)) (τ := f5_rank (f0_weighAll (f9_lookFrom σ a2)) a1) (a := a2) a1 hcρ (by rw [e20]; exact hc) (by omega) (fun i hi => (w3 i (by rw [lit_0]; omega) (by omega)).2.2) hR (fun i hi => by rw [g1'.2.1 16 rfl, m1.2.1 26 rfl]; exact (hr.2.1.2 i (by omega)).1.2.2.2.2.2.2)
    have hs2 := sX10_givesOf (a := a1) (b := a2) hsκ
    have en2 : f10_isNight (f5_rank (f0_weighAll (f9_lookFrom σ a2)) a1) a2 = 0 := by
      unfold f10_isNight; rw [m1.2.1 28 rfl, sp.1.2.1 28 rfl]; exact en.trans c3
    refine okk (fun τ => f10_gives τ a1 a2) (τ := f5_rank (f0_weighAll (f9_lookFrom σ a2)) a1) (ρ := (f10_givesOf (f5_rank (f0_weighAll (f9_lookFrom σ a2)) a1) a1 a2).2) (v := f5_best (f5_rank (f0_weighAll (f9_lookFrom σ a2)) a1)) (w := Int64.toInt32 (f10_givesOf (f5_rank (f0_weighAll (f9_lookFrom σ a2)) a1) a1 a2).1) ?_ ?_ hsκ ?_ (hr.ag (m2.tr (b4.mono (fun _ _ => rfl) (fun _ _ => rfl) b12_s)) hs2)
    · unfold f9_gives; rw [if_neg c1, if_neg c2, if_pos c3]
    · show f10_gives _ _ _ = _
      unfold f10_gives; rw [if_neg n1, if_neg n2, if_pos en2]
    · rw [i_eq, cur32 (by omega)]; exact b1
  · exact fin h f2 (fun τ => f10_gives τ a1 a2) (by unfold f9_gives; exact (if_neg c1).trans ((if_neg c2).trans (if_neg c3))) (by show f10_gives _ _ _ = _; unfold f10_gives; exact (if_neg n1).trans ((if_neg n2).trans (if_neg (fun q => c3 (en.symm.trans q)))))
/-! the hour: its state -/
def stG (T : St) (a : Int32) : Int32 × St := if gI T 7 = 0 then (if gA T 7 (Int32.toNatClampNeg a) = 0 then (0, T) else (1, T)) else (2, T)
def stF (S : St) (a w : Int32) : Int32 × St := if gI S 5 ≤ w then stG (uI S 7 1) a else (if gI S 6 < 3 then (if w = -1 then stG S a else (if gI S 5 / 2 ≤ w then stG S a else stG (uI S 7 0) a)) else stG (uI S 7 1) a)
theorem stateAt_eq (σ : St) (a : Int32) : f8_stateAt σ a = if gA σ 6 (Int32.toNatClampNeg a) = -1 then stF (uI σ 6 (if (3 : Int32) < gI σ 6 + 1 then 3 else gI σ 6 + 1)) a (gA σ 6 (Int32.toNatClampNeg a)) else stF (uI σ 6 0) a (gA σ 6 (Int32.toNatClampNeg a)) := rfl
def i7 (k : Nat) : Bool := k != 7
def i67 (k : Nat) : Bool := k != 6 && k != 7
def i234 (k : Nat) : Bool := k != 23 && k != 24
theorem i67_7 : ∀ k, i67 k = true → i7 k = true := fun k hk => by
  unfold i67 at hk; unfold i7
  simp only [Bool.and_eq_true] at hk
  exact hk.2
theorem stG_two {T S : St} {a st : Int32} (hT : gI T 7 = 0 ∨ gI T 7 = 1) (hst : st = gI T 7) (hcl : gA T 7 (Int32.toNatClampNeg a) = gA S 30 (Int32.toNatClampNeg a)) : ∃ z, stG T a = (z, T) ∧ f10_findState_c S a st = uI S 23 z ∧ (gI T 7 = 1 ↔ z = 2) ∧ (z = 0 ∨ z = 1 ∨ z = 2) := by
  unfold stG f10_findState_c
  subst hst
  by_cases c : gI T 7 = 0
  · rw [if_pos c, if_pos c, ← hcl]
    have ne : ¬ gI T 7 = 1 := by rw [c]; decide
    by_cases c2 : gA T 7 (Int32.toNatClampNeg a) = 0
    · rw [if_pos c2, if_pos c2]; exact ⟨0, rfl, rfl, ⟨fun q => absurd q ne, fun q => absurd q (by decide)⟩, Or.inl rfl⟩
    · rw [if_neg c2, if_neg c2]; exact ⟨1, rfl, rfl, ⟨fun q => absurd q ne, fun q => absurd q (by decide)⟩, Or.inr (Or.inl rfl)⟩
  · rw [if_neg c, if_neg c]; exact ⟨2, rfl, rfl, ⟨fun _ => rfl, fun _ => hT.resolve_left c⟩, Or.inr (Or.inr rfl)⟩
theorem stF_two {S S2 : St} {a w st : Int32} (h5 : gI S 5 = gI S2 21) (h6 : gI S 6 < 3 ↔ gI S2 24 < 3) (hT : gI S 7 = 0 ∨ gI S 7 = 1) (hst : st = gI S 7) (hcl : gA S 7 (Int32.toNatClampNeg a) = gA S2 30 (Int32.toNatClampNeg a)) : ∃ z T, stF S a w = (z, T) ∧ f10_findState_b S2 a w st = uI S2 23 z ∧ Ag i7 pT pT S T ∧ (gI T 7 = 0 ∨ gI T 7 = 1) ∧ (gI T 7 = 1 ↔ z = 2) ∧ (z = 0 ∨ z = 1 ∨ z = 2) := by
  unfold stF f10_findState_b
  have sett : ∀ v : Int32, (v = 0 ∨ v = 1) → ∃ z T, stG (uI S 7 v) a = (z, T) ∧ f10_findState_c S2 a v = uI S2 23 z ∧ Ag i7 pT pT S T ∧ (gI T 7 = 0 ∨ gI T 7 = 1) ∧ (gI T 7 = 1 ↔ z = 2) ∧ (z = 0 ∨ z = 1 ∨ z = 2) := by
    intro v hv
    obtain ⟨z, e1, e2, e3, e4⟩ := stG_two (T := uI S 7 v) (S := S2) (a := a) (st := v) hv rfl hcl
    exact ⟨z, uI S 7 v, e1, e2, (Ag.rf S).uI rfl, hv, e3, e4⟩
  have keep : ∃ z T, stG S a = (z, T) ∧ f10_findState_c S2 a st = uI S2 23 z ∧ Ag i7 pT pT S T ∧ (gI T 7 = 0 ∨ gI T 7 = 1) ∧ (gI T 7 = 1 ↔ z = 2) ∧ (z = 0 ∨ z = 1 ∨ z = 2) := by
    obtain ⟨z, e1, e2, e3, e4⟩ := stG_two (T := S) (S := S2) (a := a) (st := st) hT hst hcl
    exact ⟨z, S, e1, e2, Ag.rf S, hT, e3, e4⟩
  by_cases c1 : gI S 5 ≤ w
  · rw [if_pos c1, if_pos (show gI S2 21 ≤ w by rw [← h5]; exact c1)]; exact sett 1 (Or.inr rfl)
  rw [if_neg c1, if_neg (show ¬ gI S2 21 ≤ w by rw [← h5]; exact c1)]
  by_cases c2 : gI S 6 < 3
  · rw [if_pos c2, if_pos (h6.mp c2)]
    by_cases c3 : w = -1
    · rw [if_pos c3, if_pos c3]; exact keep
    rw [if_neg c3, if_neg c3]
    by_cases c4 : gI S 5 / 2 ≤ w
    · rw [if_pos c4, if_pos (show gI S2 21 / 2 ≤ w by rw [← h5]; exact c4)]; exact keep
    · rw [if_neg c4, if_neg (show ¬ gI S2 21 / 2 ≤ w by rw [← h5]; exact c4)]; exact sett 0 (Or.inl rfl)
  · rw [if_neg c2, if_neg (fun q => c2 (h6.mpr q))]; exact sett 1 (Or.inr rfl)
theorem state_two {B : Int} {σ τ : St} {H : Int32} (hB : B ≤ 2147480000) (hw : gA σ 6 (Int32.toNatClampNeg H) = gA τ 29 (Int32.toNatClampNeg H)) (hcl : gA σ 7 (Int32.toNatClampNeg H) = gA τ 30 (Int32.toNatClampNeg H)) (h5 : gI σ 5 = gI τ 21) (hl : 0 ≤ (gI τ 24).toInt ∧ (gI τ 24).toInt ≤ B ∧ (gI σ 6).toInt = if (gI τ 24).toInt ≤ 3 then (gI τ 24).toInt else 3) (hs : (gI σ 7 = 0 ∨ gI σ 7 = 1) ∧ (gI σ 7 = 1 ↔ gI τ 23 = 2)) :
    ∃ z σa τa, f8_stateAt σ H = (z, σa) ∧ f10_findState τ H = τa ∧ Ag i67 pT pT σ σa ∧ Ag i234 pT pT τ τa ∧ gI τa 23 = z ∧ (0 ≤ (gI τa 24).toInt ∧ (gI τa 24).toInt ≤ B + 1 ∧ (gI σa 6).toInt = if (gI τa 24).toInt ≤ 3 then (gI τa 24).toInt else 3) ∧ ((gI σa 7 = 0 ∨ gI σa 7 = 1) ∧ (gI σa 7 = 1 ↔ z = 2)) ∧ (z = 0 ∨ z = 1 ∨ z = 2) := by
  rw [stateAt_eq]
  unfold f10_findState
  rw [← hw]
  generalize gA σ 6 (Int32.toNatClampNeg H) = w
  have go : ∀ v u : Int32, (0 ≤ u.toInt ∧ u.toInt ≤ B + 1 ∧ v.toInt = if u.toInt ≤ 3 then u.toInt else 3) → ∃ z σa τa, stF (uI σ 6 v) H w = (z, σa) ∧ f10_findState_a (uI τ 24 u) H w = τa ∧ Ag i67 pT pT σ σa ∧ Ag i234 pT pT τ τa ∧ gI τa 23 = z ∧ (0 ≤ (gI τa 24).toInt ∧ (gI τa 24).toInt ≤ B + 1 ∧ (gI σa 6).toInt = if (gI τa 24).toInt ≤ 3 then (gI τa 24).toInt else 3) ∧ ((gI σa 7 = 0 ∨ gI σa 7 = 1) ∧ (gI σa 7 = 1 ↔ z = 2)) ∧ (z = 0 ∨ z = 1 ∨ z = 2) := by
    intro v u hu
    have ea : f10_findState_a (uI τ 24 u) H w = f10_findState_b (uI τ 24 u) H w (gI σ 7) := by
      unfold f10_findState_a
      by_cases c : gI τ 23 = 2
      · rw [if_pos (show gI (uI τ 24 u) 23 = 2 from c), hs.2.mpr c]
      · rw [if_neg (show ¬ gI (uI τ 24 u) 23 = 2 from c), hs.1.resolve_right (fun q => c (hs.2.mp q))]
    obtain ⟨z, T, e1, e2, e3, e4, e5, e6⟩ := stF_two (S := uI σ 6 v) (S2 := uI τ 24 u) (a := H) (w := w) (st := gI σ 7) h5 (by
      show v < 3 ↔ u < 3
      rw [i_lt, i_lt, lit_3, hu.2.2]
      split <;> omega) hs.1 rfl hcl
    refine ⟨z, T, _, e1, ea.trans e2, ((Ag.rf σ).uI rfl).tr (e3.mono i67_7 (fun _ _ => rfl) (fun _ _ => rfl)), ((Ag.rf τ).uI rfl).uI rfl, rfl, ⟨hu.1, hu.2.1, ?_⟩, ⟨e4, e5⟩, e6⟩
    rw [e3.1 6 rfl]
    exact hu.2.2
  by_cases c : w = -1
  · rw [if_pos c, if_pos c]
    refine go _ _ ?_
    have e1 : (gI τ 24 + 1).toInt = (gI τ 24).toInt + 1 := i_add1 (b := 2147480001) (by omega) (by omega)
    have e2 : (gI σ 6 + 1).toInt = (gI σ 6).toInt + 1 := by
      refine i_add1 (b := 4) ?_ (by omega)
      rw [hl.2.2]; split <;> omega
    refine ⟨by omega, by omega, ?_⟩
    have h3 := hl.2.2
    by_cases g : (3 : Int32) < gI σ 6 + 1
    · rw [if_pos g, lit_3]
      rw [i_lt, lit_3] at g
      split at h3 <;> split <;> omega
    · rw [if_neg g]
      rw [i_lt, lit_3] at g
      split at h3 <;> split <;> omega
  · rw [if_neg c, if_neg c]
    exact go 0 0 ⟨by rw [lit_0]; omega, by rw [lit_0]; omega, by rw [lit_0]; rfl⟩
theorem target_two {σ τ : St} (h : Rg2 σ τ) {H z : Int32} (hH : vp_in H 24) (hz : gI τ 23 = z) (hz3 : z = 0 ∨ z = 1 ∨ z = 2) : (f9_targetStep σ H z).1 = (f10_stepFor τ H).1 ∧ Ag sI3 pT b45 σ (f9_targetStep σ H z).2 ∧ (f10_stepFor τ H).2 = τ := by
  obtain ⟨⟨s1, s2⟩, -⟩ := h.2.2.2.2.1 _ (vlt hH)
  have en : f10_isNight τ H = f4_isNight σ H := by unfold f10_isNight f4_isNight; rw [s2]
  unfold f9_targetStep f10_stepFor
  rw [hz, en]
  rcases hz3 with rfl | rfl | rfl
  · rw [if_neg (show ¬ (0 : Int32) = 1 by decide), if_neg (show ¬ (0 : Int32) = 2 by decide), if_pos (show (0 : Int32) = 0 from rfl)]
    by_cases c : f4_isNight σ H = 0
    · rw [if_pos c, if_pos c]
      obtain ⟨b1, b2, b3⟩ := back_eq h hH
      by_cases q : (f0_backStep σ (gA σ 2 (Int32.toNatClampNeg H)) (gA σ 3 (Int32.toNatClampNeg H))).1 = 99
      · rw [if_pos q, if_pos (b1.symm.trans q), b3]
        dsimp only
        refine ⟨?_, b2, rfl⟩
        rw [b2.2.1 2 rfl, b2.2.1 3 rfl]
        exact ideal_eq s1.symm s2.symm
      · rw [if_neg q, if_neg (fun w => q (b1.trans w)), b3]
        dsimp only
        exact ⟨b1, b2, rfl⟩
    · rw [if_neg c, if_neg c]
      exact ⟨rfl, Ag.rf _, rfl⟩
  · rw [if_pos (show (1 : Int32) = 1 from rfl), if_neg (show ¬ (1 : Int32) = 0 by decide), if_neg (show ¬ (1 : Int32) = 2 by decide)]
    exact ⟨rfl, Ag.rf _, rfl⟩
  · rw [if_neg (show ¬ (2 : Int32) = 1 by decide), if_pos (show (2 : Int32) = 2 from rfl), if_neg (show ¬ (2 : Int32) = 0 by decide), if_pos (show (2 : Int32) = 2 from rfl)]
    exact ⟨rfl, Ag.rf _, rfl⟩
theorem turn_two {t lt la : Int32} {c : Nat} (h10 : c ≤ 10) : ∀ (n : Nat) (σ τ : St) (j : Int32) (jn : Nat), (c : Int) = (gI σ 2).toInt → (c : Int) = (gI τ 20).toInt → (∀ i, i < c → gA σ 10 i = gA τ 20 i) → (∀ i, i < c → gA σ 15 i = gA τ 25 i) → (lt = if la = 0 then t else gI τ 26) → (jn : Int) = j.toInt → jn ≤ c → c < jn + n →
    (∀ i, i < c → gA (f0_turnTo_L t lt n σ j) 15 i = gA (f10_setSteps_L t la n τ j) 25 i) ∧ Ag pT a15 pT σ (f0_turnTo_L t lt n σ j) ∧ ∃ τ1, f10_setSteps_L t la n τ j = uI (uI τ1 26 t) 27 (gI τ1 23) ∧ Ag pT a25 pT τ τ1
  | 0, σ, τ, j, jn, hc, hc2, hk, hs, hl, hj, h1, hf => by omega
  | n + 1, σ, τ, j, jn, hc, hc2, hk, hs, hl, hj, h1, hf => by
    unfold f0_turnTo_L f10_setSteps_L
    by_cases e : gI σ 2 ≤ j
    · have e2 : gI τ 20 ≤ j := by rw [i_le] at e ⊢; omega
      rw [if_pos e, if_pos e2]
      exact ⟨hs, Ag.rf _, τ, rfl, Ag.rf _⟩
    have e2 : ¬ gI τ 20 ≤ j := by rw [i_le] at e ⊢; omega
    rw [if_neg e, if_neg e2]
    rw [i_le] at e
    have e1 : (j + 1).toInt = j.toInt + 1 := i_add1 (b := 10) (by omega) (by omega)
    rw [N_of hj, hk jn (by omega)]
    have put : ∀ v : Int32, ∀ i, i < c → gA (uA σ 15 jn v) 15 i = gA (uA τ 25 jn v) 25 i := by
      intro v i hi
      by_cases ei : i = jn
      · subst ei; rw [gAs, gAs]
      · rw [gAn σ 15 v ei, gAn τ 25 v ei]; exact hs i hi
    have rcc : ∀ v : Int32, (∀ i, i < c → gA (f0_turnTo_L t lt n (uA σ 15 jn v) (j + 1)) 15 i = gA (f10_setSteps_L t la n (uA τ 25 jn v) (j + 1)) 25 i) ∧ Ag pT a15 pT σ (f0_turnTo_L t lt n (uA σ 15 jn v) (j + 1)) ∧ ∃ τ1, f10_setSteps_L t la n (uA τ 25 jn v) (j + 1) = uI (uI τ1 26 t) 27 (gI τ1 23) ∧ Ag pT a25 pT τ τ1 := by
      intro v
      obtain ⟨y1, y2, τ1, y3, y4⟩ := turn_two (t := t) (lt := lt) (la := la) h10 n (uA σ 15 jn v) (uA τ 25 jn v) (j + 1) (jn + 1) hc hc2 hk (put v) hl (by omega) (by omega) (by omega)
      exact ⟨y1, ((Ag.rf σ).uA rfl).tr y2, τ1, y3, ((Ag.rf τ).uA rfl).tr y4⟩
    by_cases k1 : gA τ 20 jn = 1
    · rw [if_pos k1, if_pos k1]
      exact turn_two h10 n σ τ (j + 1) (jn + 1) hc hc2 hk hs hl (by omega) (by omega) (by omega)
    rw [if_neg k1, if_neg k1]
    by_cases k2 : gA τ 20 jn = 2
    · rw [if_pos k2, if_pos k2]
      by_cases k3 : la = 0
      · rw [if_pos k3] at hl ⊢
        rw [← hl]; rw [← hl] at rcc; exact rcc lt
      · rw [if_neg k3] at hl ⊢
        rw [← hl]; exact rcc lt
    · rw [if_neg k2, if_neg k2]
      exact rcc t
