/-! what rows let through -/
theorem gBs (σ : St) (k i : Nat) (v : Int64) : gB (uB σ k i v) k i = v := by rw [gB_uB, if_pos rfl]; exact updL_at
theorem gAs (σ : St) (k i : Nat) (v : Int32) : gA (uA σ k i v) k i = v := by rw [gA_uA, if_pos rfl]; exact upd_at
theorem gBn (σ : St) (k : Nat) {i j : Nat} (v : Int64) (h : j ≠ i) : gB (uB σ k i v) k j = gB σ k j := by rw [gB_uB, if_pos rfl]; exact updL_ne h
theorem gAn (σ : St) (k : Nat) {i j : Nat} (v : Int32) (h : j ≠ i) : gA (uA σ k i v) k j = gA σ k j := by rw [gA_uA, if_pos rfl]; exact upd_ne h
theorem weighC_eq (σ : St) (r : Int32) {U T : Int64} {i : Nat} (hi : Int32.toNatClampNeg r = i) (hU : ((Int32.toInt64 ((3 : Int32) - (fJ_bitCount (f2_darkGroups σ r)))) * (f2_stretch σ r)) / (3000000 : Int64) = U) (hT : (U * Int32.toInt64 (gA σ 14 i)) / (1000 : Int64) = T) : f0_weigh_C σ r = uA (uB (uB σ 0 i U) 1 i T) 1 i (Int64.toInt32 (U - T)) := by
  have q0 : gB (uB σ 0 i U) 0 i = U := gBs _ _ _ _
  have q1 : gB (uB (uB σ 0 i U) 1 i T) 1 i = T := gBs _ _ _ _
  have q2 : gB (uB (uB σ 0 i U) 1 i T) 0 i = U := q0
  have e14 : gA (uB σ 0 i U) 14 i = gA σ 14 i := rfl
  unfold f0_weigh_C
  rw [hi, hU, q0, e14, hT, q1, q2]
theorem dark_rg (τ : St) (r a : Int32) : ∃ j : Nat, j < 8 ∧ f10_darkOf τ r a = nI j := by
  unfold f10_darkOf
  rw [f10_darkOf_L, if_neg (show ¬ (3 : Int32) ≤ 0 by decide)]
  split <;> rw [f10_darkOf_L, if_neg (show ¬ (3 : Int32) ≤ 0 + 1 by decide)] <;> split <;> rw [f10_darkOf_L, if_neg (show ¬ (3 : Int32) ≤ 0 + 1 + 1 by decide)] <;> split <;> rw [f10_darkOf_L, if_pos (show (3 : Int32) ≤ 0 + 1 + 1 + 1 by decide)]
  all_goals first | exact ⟨0, by decide, by decide +kernel⟩ | exact ⟨1, by decide, by decide +kernel⟩ | exact ⟨2, by decide, by decide +kernel⟩ | exact ⟨3, by decide, by decide +kernel⟩ | exact ⟨4, by decide, by decide +kernel⟩ | exact ⟨5, by decide, by decide +kernel⟩ | exact ⟨6, by decide, by decide +kernel⟩ | exact ⟨7, by decide, by decide +kernel⟩
theorem bits_eq (τ : St) (r a : Int32) : (3 : Int32) - fJ_bitCount (f10_darkOf τ r a) = (((3 : Int32) - ((f10_darkOf τ r a) &&& (1 : Int32))) - (((f10_darkOf τ r a) >>> ((1 : Int32) &&& 31)) &&& (1 : Int32))) - (((f10_darkOf τ r a) >>> ((2 : Int32) &&& 31)) &&& (1 : Int32)) ∧ 0 ≤ ((3 : Int32) - fJ_bitCount (f10_darkOf τ r a)).toInt ∧ ((3 : Int32) - fJ_bitCount (f10_darkOf τ r a)).toInt ≤ 3 := by
  obtain ⟨j, hj, e⟩ := dark_rg τ r a
  rw [e]
  have : ∀ j : Nat, j < 8 → ((3 : Int32) - fJ_bitCount (nI j) = (((3 : Int32) - ((nI j) &&& (1 : Int32))) - (((nI j) >>> ((1 : Int32) &&& 31)) &&& (1 : Int32))) - (((nI j) >>> ((2 : Int32) &&& 31)) &&& (1 : Int32)) ∧ 0 ≤ ((3 : Int32) - fJ_bitCount (nI j)).toInt ∧ ((3 : Int32) - fJ_bitCount (nI j)).toInt ≤ 3) := by decide +kernel
  exact this j hj
theorem JN.ag {ρ σ τ : St} {a : Int32} (J : JN ρ τ a) (hs : Safe σ) (e2 : gI σ 2 = gI ρ 2) (e3 : gI σ 3 = gI ρ 3) (e4 : gB σ 4 = gB ρ 4) (e5 : gB σ 5 = gB ρ 5) : JN σ τ a := by
  obtain ⟨j1, j2, j3, j4, j5, j6⟩ := J
  unfold JN LkG
  rw [e2, e3, e4, e5]
  exact ⟨hs, j2, j3, j4, j5, j6⟩
def aN1 (k : Nat) : Bool := k != 1
def bW (k : Nat) : Bool := k != 0 && k != 1 && k != 6 && k != 7
def WS (ρ σ : St) (i : Nat) (u t : Int64) (c : Int32) : Prop := Ag i13 aN1 bW ρ σ ∧ (gB σ 0 i = u ∧ gB σ 1 i = t ∧ gA σ 1 i = c) ∧ ∀ j, j ≠ i → gB σ 0 j = gB ρ 0 j ∧ gB σ 1 j = gB ρ 1 j ∧ gA σ 1 j = gA ρ 1 j
theorem clean0 {τ : St} {r a : Int32} (h : f10_breadthOf τ r a ≤ 0) : f10_clean τ r a = 0 ∧ f10_dusted τ r a = 0 ∧ f10_currentOf τ r a = 0 := by
  have e1 : f10_clean τ r a = 0 := by
    unfold f10_clean
    rw [if_neg]
    rw [l_lt]; rw [l_le] at h; omega
  have e2 : f10_dusted τ r a = 0 := by
    unfold f10_dusted; rw [e1, Int64.zero_mul]; decide
  exact ⟨e1, e2, by unfold f10_currentOf; rw [e1, e2]; decide⟩
theorem b67_W : ∀ k, bW k = true → b67 k = true := fun k hk => by
  unfold bW at hk; unfold b67
  simp only [Bool.and_eq_true] at hk ⊢
  exact ⟨hk.1.2, hk.2⟩
theorem weigh_spec {ρ τ : St} {a r : Int32} (J : JN ρ τ a) (h0 : 0 ≤ r.toInt) (h1 : r.toInt < (gI ρ 2).toInt) (hd : gA ρ 14 (Int32.toNatClampNeg r) = gA τ 24 (Int32.toNatClampNeg r)) : WS ρ (f0_weigh ρ r) (Int32.toNatClampNeg r) (f10_clean τ r a) (f10_dusted τ r a) (Int64.toInt32 (f10_currentOf τ r a)) := by
  unfold f0_weigh
  generalize hi : Int32.toNatClampNeg r = i at hd
  have J1 : JN (uA (uB (uB ρ 0 i 0) 1 i 0) 1 i 0) τ a := J.ag (sf_A (by decide) (sf_B (sf_B J.1))) rfl rfl rfl rfl
  have A1 : Ag i13 aN1 bW ρ (uA (uB (uB ρ 0 i 0) 1 i 0) 1 i 0) := (((Ag.rf ρ).uB rfl).uB rfl).uA rfl
  have d14 : gA (uA (uB (uB ρ 0 i 0) 1 i 0) 1 i 0) 14 i = gA τ 24 i := hd
  have o1 : ∀ j, j ≠ i → gB (uA (uB (uB ρ 0 i 0) 1 i 0) 1 i 0) 0 j = gB ρ 0 j ∧ gB (uA (uB (uB ρ 0 i 0) 1 i 0) 1 i 0) 1 j = gB ρ 1 j ∧ gA (uA (uB (uB ρ 0 i 0) 1 i 0) 1 i 0) 1 j = gA ρ 1 j := fun j hj => ⟨gBn ρ 0 0 hj, gBn (uB ρ 0 i 0) 1 0 hj, gAn (uB (uB ρ 0 i 0) 1 i 0) 1 0 hj⟩
  have z1 : gB (uA (uB (uB ρ 0 i 0) 1 i 0) 1 i 0) 0 i = 0 ∧ gB (uA (uB (uB ρ 0 i 0) 1 i 0) 1 i 0) 1 i = 0 ∧ gA (uA (uB (uB ρ 0 i 0) 1 i 0) 1 i 0) 1 i = 0 := ⟨gBs ρ 0 i 0, gBs (uB ρ 0 i 0) 1 i 0, gAs (uB (uB ρ 0 i 0) 1 i 0) 1 i 0⟩
  have h1' : r.toInt < (gI (uA (uB (uB ρ 0 i 0) 1 i 0) 1 i 0) 2).toInt := h1
  generalize uA (uB (uB ρ 0 i 0) 1 i 0) 1 i 0 = σ at J1 A1 d14 o1 z1 h1' ⊢
  have hl := J1.lit h0 h1'
  by_cases c : f2_isLit σ r = 0
  · rw [if_pos c]
    obtain ⟨e1, e2, e3⟩ := clean0 (hl.mp c)
    rw [e1, e2, e3]
    exact ⟨A1, ⟨z1.1, z1.2.1, z1.2.2⟩, o1⟩
  · rw [if_neg c]
    have l : ¬ f10_breadthOf τ r a ≤ 0 := fun q => c (hl.mpr q)
    obtain ⟨p1, p2, p3, p4⟩ := cast_spec J1 h0 h1'
    have dk := J1.dark_eq h0 h1' l
    have br := (J1.br h0 h1').2
    have sc : f2_stretch (f0_castShade σ r) r = f10_breadthOf τ r a := by
      rw [← br]; unfold f2_stretch; rw [p3.2.2 4 rfl, p3.2.2 5 rfl]
    unfold f0_weigh_B
    rw [weighC_eq (f0_castShade σ r) r hi (U := f10_clean τ r a) (T := f10_dusted τ r a) (by
      rw [dk, sc, (bits_eq τ r a).1]; unfold f10_clean
      rw [if_pos]
      rw [l_lt]; rw [l_le] at l; omega) (by
      unfold f10_dusted; rw [p3.2.1 14 rfl, d14, hi])]
    refine ⟨A1.tr ((((p3.mono (fun _ h => h) (fun _ _ => rfl) b67_W).uB rfl).uB rfl).uA rfl), ⟨gBs (f0_castShade σ r) 0 i _, gBs (uB (f0_castShade σ r) 0 i _) 1 i _, ?_⟩, fun j hj => ?_⟩
    · exact gAs (uB (uB (f0_castShade σ r) 0 i (f10_clean τ r a)) 1 i (f10_dusted τ r a)) 1 i _
    · obtain ⟨o2, o3, o4⟩ := o1 j hj
      refine ⟨?_, ?_, ?_⟩
      · rw [← o2, ← p3.2.2 0 rfl]; exact gBn (f0_castShade σ r) 0 _ hj
      · rw [← o3, ← p3.2.2 1 rfl]; exact gBn (uB (f0_castShade σ r) 0 i (f10_clean τ r a)) 1 _ hj
      · rw [← o4, ← p3.2.1 1 rfl]; exact gAn (uB (uB (f0_castShade σ r) 0 i (f10_clean τ r a)) 1 i (f10_dusted τ r a)) 1 _ hj
theorem weighAll_spec {τ : St} {a : Int32} : ∀ (n : Nat) (σ : St) (j : Int32), JN σ τ a → (∀ i : Nat, (i : Int) < (gI σ 2).toInt → gA σ 14 i = gA τ 24 i) → 0 ≤ j.toInt → j.toInt ≤ (gI σ 2).toInt → (gI σ 2).toInt < j.toInt + n →
    JN (f0_weighAll_L n σ j) τ a ∧ Ag i13 aN1 bW σ (f0_weighAll_L n σ j) ∧ (∀ i : Nat, j.toInt ≤ i → (i : Int) < (gI σ 2).toInt → gB (f0_weighAll_L n σ j) 0 i = f10_clean τ (nI i) a ∧ gB (f0_weighAll_L n σ j) 1 i = f10_dusted τ (nI i) a ∧ gA (f0_weighAll_L n σ j) 1 i = Int64.toInt32 (f10_currentOf τ (nI i) a)) ∧ (∀ i : Nat, (i : Int) < j.toInt → gB (f0_weighAll_L n σ j) 0 i = gB σ 0 i ∧ gB (f0_weighAll_L n σ j) 1 i = gB σ 1 i ∧ gA (f0_weighAll_L n σ j) 1 i = gA σ 1 i)
  | 0, σ, j, J, hd, h0, h1, hf => by omega
  | n + 1, σ, j, J, hd, h0, h1, hf => by
    unfold f0_weighAll_L
    by_cases c : gI σ 2 ≤ j
    · rw [if_pos c]
      have t := t_le c rfl rfl
      exact ⟨J, Ag.rf _, fun i i1 i2 => by omega, fun i _ => ⟨rfl, rfl, rfl⟩⟩
    rw [if_neg c]
    obtain ⟨x1, x2, x3⟩ := lp_ix J.1.cnt.2 h0 c
    have hc := J.1.cnt
    have hnI := nI_N h0 (by omega)
    have ws := weigh_spec J h0 x2 (hd _ (by omega))
    generalize Int32.toNatClampNeg j = i0 at x1 hnI ws
    have hs : Safe (f0_weigh σ j) := sX0_weigh J.1
    generalize f0_weigh σ j = ρ at ws hs
    obtain ⟨w1, ⟨w2, w3, w4⟩, w5⟩ := ws
    have e2 : gI ρ 2 = gI σ 2 := w1.1 2 rfl
    have J' : JN ρ τ a := J.ag hs e2 (w1.1 3 rfl) (w1.2.2 4 rfl) (w1.2.2 5 rfl)
    obtain ⟨y1, y2, y3, y4⟩ := weighAll_spec n ρ (j + 1) J' (fun i hi => by rw [e2] at hi; rw [w1.2.1 14 rfl]; exact hd i hi) (by omega) (by rw [e2]; omega) (by rw [e2]; omega)
    refine ⟨y1, w1.tr y2, fun i i1 i2 => ?_, fun i i1 => ?_⟩
    · by_cases e : i = i0
      · subst e
        obtain ⟨z1, z2, z3⟩ := y4 i (by omega)
        rw [z1, z2, z3, w2, w3, w4, hnI]
        exact ⟨rfl, rfl, rfl⟩
      · exact y3 i (by omega) (by rw [e2]; exact i2)
    · obtain ⟨z1, z2, z3⟩ := y4 i (by omega)
      obtain ⟨v1, v2, v3⟩ := w5 i (by omega)
      rw [z1, z2, z3, v1, v2, v3]
      exact ⟨rfl, rfl, rfl⟩
/-! ranges -/
theorem j_div {x y : Int64} (hx : 0 ≤ x.toInt) (hy : 0 < y.toInt) : (x / y).toInt = x.toInt / y.toInt := by
  rw [Int64.toInt_div_of_ne_right _ _ (fun q => by rw [q] at hy; exact absurd hy (by decide)), Int.tdiv_eq_ediv_of_nonneg hx]
theorem jl_3000000 : (3000000 : Int64).toInt = 3000000 := by decide
theorem jl_1000 : (1000 : Int64).toInt = 1000 := by decide
theorem cur_rg {ρ τ : St} {a r : Int32} (J : JN ρ τ a) (h0 : 0 ≤ r.toInt) (h1 : r.toInt < (gI ρ 2).toInt) (hd : 0 ≤ (gA τ 24 (Int32.toNatClampNeg r)).toInt ∧ (gA τ 24 (Int32.toNatClampNeg r)).toInt ≤ 1000) : (0 ≤ (f10_clean τ r a).toInt ∧ (f10_clean τ r a).toInt ≤ 2000000) ∧ (0 ≤ (f10_dusted τ r a).toInt ∧ (f10_dusted τ r a).toInt ≤ 2000000) ∧ (0 ≤ (f10_currentOf τ r a).toInt ∧ (f10_currentOf τ r a).toInt ≤ 2000000) := by
  obtain ⟨r1, r2, r3, r4, r5, r6⟩ := J.row h0 h1
  obtain ⟨b1, b2⟩ := J.br h0 h1
  have hcl : 0 ≤ (f10_clean τ r a).toInt ∧ (f10_clean τ r a).toInt ≤ 2000000 := by
    by_cases l : f10_breadthOf τ r a ≤ 0
    · rw [(clean0 l).1, jl_0]; omega
    · have l2 := l
      rw [l_le, jl_0] at l2
      obtain ⟨g1, g2, g3⟩ := bits_eq τ r a
      unfold f10_clean
      rw [if_pos (by rw [l_lt, jl_0]; omega), ← g1]
      generalize (3 : Int32) - fJ_bitCount (f10_darkOf τ r a) = q at g2 g3
      have hp : (Int32.toInt64 q * f10_breadthOf τ r a).toInt = q.toInt * (f10_breadthOf τ r a).toInt := by
        have := mul_bd (a := q.toInt) (b := (f10_breadthOf τ r a).toInt) (A := 3) (B := 2000000000000) (by omega) (by omega) (by omega) (by omega)
        rw [j_mul (by rw [j_of]; omega) (by rw [j_of]; omega), j_of]
      have hq0 := Int.mul_nonneg g2 (show 0 ≤ (f10_breadthOf τ r a).toInt by omega)
      have hq1 := (mul_bd (a := q.toInt) (b := (f10_breadthOf τ r a).toInt) (A := 3) (B := 2000000000000) (by omega) (by omega) (by omega) (by omega)).2
      rw [j_div (by rw [hp]; exact hq0) (by decide), hp, jl_3000000]
      generalize q.toInt * (f10_breadthOf τ r a).toInt = z at hq0 hq1
      omega
  have hdu : (f10_dusted τ r a).toInt = (f10_clean τ r a).toInt * (gA τ 24 (Int32.toNatClampNeg r)).toInt / 1000 ∧ 0 ≤ (f10_dusted τ r a).toInt ∧ (f10_dusted τ r a).toInt ≤ (f10_clean τ r a).toInt := by
    unfold f10_dusted
    generalize f10_clean τ r a = C at hcl
    generalize gA τ 24 (Int32.toNatClampNeg r) = D at hd
    have hq0 := Int.mul_nonneg hcl.1 hd.1
    have hq1 := (mul_bd (a := C.toInt) (b := D.toInt) (A := 2000000) (B := 1000) (by omega) (by omega) (by omega) (by omega)).2
    have hq2 := Int.mul_nonneg hcl.1 (show 0 ≤ 1000 - D.toInt by omega)
    rw [Int.mul_sub] at hq2
    have hp : (C * Int32.toInt64 D).toInt = C.toInt * D.toInt := by rw [j_mul (by rw [j_of]; omega) (by rw [j_of]; omega), j_of]
    rw [j_div (by rw [hp]; exact hq0) (by decide), hp, jl_1000]
    generalize C.toInt * D.toInt = z at hq0 hq1 hq2
    omega
  refine ⟨hcl, ⟨hdu.2.1, by omega⟩, ?_⟩
  unfold f10_currentOf
  rw [j_sub (by omega) (by omega)]
  omega
theorem cur32 {x : Int64} (h : 0 ≤ x.toInt ∧ x.toInt ≤ 2000000000) : (Int64.toInt32 x).toInt = x.toInt := by
  rw [Int64.toInt_toInt32]; exact Int.bmod_eq_of_le (by omega) (by omega)
theorem m_s : ∀ k, mI k = true → i13 k = true := i13_m
theorem aN1_m : ∀ k, mA k = true → aN1 k = true := fun k hk => by
  unfold mA at hk; unfold aN1
  simp only [Bool.or_eq_true, beq_iff_eq] at hk
  simp only [bne_iff_ne, ne_eq]
  omega
theorem aN1_s : ∀ k, sA k = true → aN1 k = true := fun k hk => by
  unfold sA at hk; unfold aN1
  simp only [Bool.and_eq_true] at hk
  exact hk.1
theorem bW_s : ∀ k, sB k = true → bW k = true := fun k hk => by
  unfold sB at hk; unfold bW
  simp only [Bool.and_eq_true, bne_iff_ne, ne_eq] at hk
  simp only [Bool.and_eq_true, bne_iff_ne, ne_eq]
  omega
theorem cur_ag {σ τ : St} (g : Ag mI mA mB σ τ) (r h : Int32) : f10_breadthOf τ r h = f10_breadthOf σ r h := breadth_ag g r h
theorem pu_current (k : Nat) (σ : St) (a1 a2 : Int32) (h : Rel k σ) : Safe (f9_current σ a1 a2).2 ∧ (f9_current σ a1 a2).1 = (f10_current (f9_current σ a1 a2).2 a1 a2).1 ∧ Rel (k + 1) (f10_current (f9_current σ a1 a2).2 a1 a2).2 := by
  rcases sight_cases h a1 a2 with ⟨c, hc, e1, e2⟩ | ⟨e1, e2, e3, e4, e5⟩
  · refine fin h hc (fun τ => f10_current τ a1 a2) (by unfold f9_current; rw [e1, if_neg (five_ne hc)]) ?_
    show f10_current _ _ _ = _
    unfold f10_current
    rw [unseen_ag (σ := σ) (τ := (f9_answer σ c).2) rfl rfl, e2, if_neg (five_neg hc)]
  · have hr := lookFrom_Rel h.up e4
    have sp := lookFrom_spec h e4
    obtain ⟨g1, g2⟩ := row_rg h.1 e3
    have g3 : a1.toInt < (gI (f9_lookFrom σ a2) 2).toInt := by rw [sp.1.1 2 rfl]; exact g2
    have hN : ((Int32.toNatClampNeg a1 : Nat) : Int) = a1.toInt := by have := h.1.cnt; simp only [Int32.toNatClampNeg]; omega
    have hs : Safe (f0_weigh (f9_lookFrom σ a2) a1) := sX0_weigh hr.1
    have dst : gA (f9_lookFrom σ a2) 14 (Int32.toNatClampNeg a1) = gA (f9_lookFrom σ a2) 24 (Int32.toNatClampNeg a1) := (hr.2.1.2 _ (by omega)).1.2.2.2.2.1
    have ws0 := weigh_spec (JN_of h e4 (Ag.rf _) hr.1) g1 g3 dst
    have m1 : Ag mI mA mB (f9_lookFrom σ a2) (f0_weigh (f9_lookFrom σ a2) a1) := ws0.1.mono i13_m aN1_m mB_x
    have m2 : Ag sI sA sB (f9_lookFrom σ a2) (f0_weigh (f9_lookFrom σ a2) a1) := ws0.1.mono i13_s aN1_s bW_s
    have ws := weigh_spec (JN_of h e4 m1 hs) g1 g3 (by rw [m1.2.1 24 rfl]; exact dst)
    refine okk (fun τ => f10_current τ a1 a2) (τ := f0_weigh (f9_lookFrom σ a2) a1) (ρ := f0_weigh (f9_lookFrom σ a2) a1) (v := gA (f0_weigh (f9_lookFrom σ a2) a1) 1 (Int32.toNatClampNeg a1)) (w := Int64.toInt32 (f10_currentOf (f0_weigh (f9_lookFrom σ a2) a1) a1 a2)) ?_ ?_ hs ws.2.1.2.2 (hr.ag m2 hs)
    · unfold f9_current; rw [if_pos e1]
    · show f10_current _ _ _ = _
      unfold f10_current
      rw [unseen_ag (σ := σ) ((m1.1 20 rfl).trans (sp.1.1 20 rfl)) ((m1.2.1 28 rfl).trans (sp.1.2.1 28 rfl)), e2]
      exact if_pos (by decide)
