theorem HB2.b5 {B : Int} {σ τ : St} (h : HB2 B σ τ) : gB σ 2 5 = gB τ 10 5 := by
  obtain ⟨-, -, -, -, -, -, ⟨-, -, -, -, -, -, bk, -⟩, -⟩ := h
  exact bk.1 5 (by omega)
theorem hours_two {a1 : Int32} (ha : a1.toInt ≤ 48) : ∀ (n : Nat) (σ τ : St) (s : Int64) (k : Int32) (B : Int), HB2 B σ τ → B ≤ 2147400000 + k.toInt → 0 ≤ k.toInt → k.toInt ≤ a1.toInt → a1.toInt < k.toInt + n →
    (f9_hours_L a1 n σ s k).1 = (f10_hours_L a1 n τ s k).1 ∧ HB2 (B + (a1.toInt - k.toInt)) (f9_hours_L a1 n σ s k).2 (f10_hours_L a1 n τ s k).2 ∧ Ag uCI uCA uCB σ (f9_hours_L a1 n σ s k).2 ∧ Ag uRI uRA uRB τ (f10_hours_L a1 n τ s k).2
  | 0, σ, τ, s, k, B, h, hB, h0, h1, hf => by omega
  | n + 1, σ, τ, s, k, B, h, hB, h0, h1, hf => by
    unfold f9_hours_L f10_hours_L
    by_cases e : a1 ≤ k
    · rw [if_pos e, if_pos e]
      rw [i_le] at e
      rw [show B + (a1.toInt - k.toInt) = B by omega]
      exact ⟨rfl, h, Ag.rf _, Ag.rf _⟩
    rw [if_neg e, if_neg e]
    rw [i_le] at e
    have e1 : (k + 1).toInt = k.toInt + 1 := i_add1 (b := 48) (by omega) (by omega)
    obtain ⟨r1, r2, r3, r4⟩ := hour_two (by omega) h
    have b5 := r1.b5
    rw [n5, b5]
    obtain ⟨y1, y2, y3, y4⟩ := hours_two ha n (f9_passHour σ) (f10_hour τ).2 (s + gB (f10_hour τ).2 10 5) (k + 1) (B + 1) r1 (by omega) (by omega) (by omega) (by omega)
    rw [show B + 1 + (a1.toInt - (k + 1).toInt) = B + (a1.toInt - k.toInt) by omega] at y2
    exact ⟨y1, y2, r3.tr y3, r4.tr y4⟩
theorem pu_hours (k : Nat) (σ : St) (a1 : Int32) (hk : k ≤ 600) (h : Rel k σ) : Safe (f9_hours σ a1).2 ∧ (f9_hours σ a1).1 = (f10_hours (f9_hours σ a1).2 a1).1 ∧ Rel (k + 1) (f10_hours (f9_hours σ a1).2 a1).2 := by
  by_cases c1 : f9_isWithin a1 1 48 = 0
  · exact finL h f1 (fun τ => f10_hours τ a1) (by unfold f9_hours; exact if_pos c1) (by show f10_hours _ _ = _; unfold f10_hours; exact if_pos (show f10_in a1 1 48 = 0 from c1))
  have w := wi_t c1
  rw [lit_1, lit_48] at w
  have e9 : f9_hours σ a1 = f9_hours_L a1 49 σ 0 0 := by unfold f9_hours; rw [if_neg c1]
  have e10 : ∀ τ, f10_hours τ a1 = f10_hours_L a1 49 τ 0 0 := fun τ => by unfold f10_hours; rw [if_neg (show ¬ f10_in a1 1 48 = 0 from c1)]
  rw [e9, e10]
  obtain ⟨-, -, AC, -⟩ := hours_two (a1 := a1) w.2 49 σ σ 0 0 (48 * (k : Int)) ⟨h.1, h.1, mix_of (Ag.rf σ) h.b⟩ (by rw [lit_0]; omega) (by rw [lit_0]; omega) (by rw [lit_0]; omega) (by rw [lit_0]; omega)
  have s1 : Safe (f9_hours_L a1 49 σ 0 0).2 := by
    obtain ⟨-, ⟨q, -⟩, -⟩ := hours_two (a1 := a1) w.2 49 σ σ 0 0 (48 * (k : Int)) ⟨h.1, h.1, mix_of (Ag.rf σ) h.b⟩ (by rw [lit_0]; omega) (by rw [lit_0]; omega) (by rw [lit_0]; omega) (by rw [lit_0]; omega)
    exact q
  obtain ⟨y1, ⟨-, -, y2⟩, -, AR⟩ := hours_two (a1 := a1) w.2 49 σ (f9_hours_L a1 49 σ 0 0).2 0 0 (48 * (k : Int)) ⟨h.1, s1, mix_of AC h.b⟩ (by rw [lit_0]; omega) (by rw [lit_0]; omega) (by rw [lit_0]; omega) (by rw [lit_0]; omega)
  refine ⟨s1, y1, ?_⟩
  show RelB (48 * ((k + 1 : Nat) : Int)) (f10_hours_L a1 49 (f9_hours_L a1 49 σ 0 0).2 0 0).2
  exact (of_mix AR y2).up (by rw [lit_0]; omega)
