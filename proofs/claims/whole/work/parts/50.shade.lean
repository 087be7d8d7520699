/-! ranges of looks -/
def bd (a : Int64) (A : Int) : Prop := -A ≤ a.toInt ∧ a.toInt ≤ A
theorem mul_bd {a b A B : Int} (h1 : -A ≤ a) (h2 : a ≤ A) (h3 : -B ≤ b) (h4 : b ≤ B) : -(A * B) ≤ a * b ∧ a * b ≤ A * B := by
  have p1 := Int.mul_nonneg (show 0 ≤ A - a by omega) (show 0 ≤ B + b by omega)
  have p2 := Int.mul_nonneg (show 0 ≤ A + a by omega) (show 0 ≤ B - b by omega)
  have p3 := Int.mul_nonneg (show 0 ≤ A - a by omega) (show 0 ≤ B - b by omega)
  have p4 := Int.mul_nonneg (show 0 ≤ A + a by omega) (show 0 ≤ B + b by omega)
  rw [Int.sub_mul, Int.mul_add, Int.mul_add] at p1
  rw [Int.add_mul, Int.mul_sub, Int.mul_sub] at p2
  rw [Int.sub_mul, Int.mul_sub, Int.mul_sub] at p3
  rw [Int.add_mul, Int.mul_add, Int.mul_add] at p4
  omega
theorem bd_mul {a b : Int64} {A B C : Int} (ha : bd a A) (hb : bd b B) (hC : A * B = C) (h : C ≤ 1000000000000000000) : bd (a * b) C := by
  have := mul_bd ha.1 ha.2 hb.1 hb.2
  rw [hC] at this
  unfold bd
  rw [j_mul (by omega) (by omega)]; exact this
theorem bd_add {a b : Int64} {A B C : Int} (ha : bd a A) (hb : bd b B) (hC : A + B = C) (h : C ≤ 1000000000000000000) : bd (a + b) C := by
  obtain ⟨h1, h2⟩ := ha
  obtain ⟨h3, h4⟩ := hb
  unfold bd
  rw [j_add (by omega) (by omega)]; omega
theorem bd_sub {a b : Int64} {A B C : Int} (ha : bd a A) (hb : bd b B) (hC : A + B = C) (h : C ≤ 1000000000000000000) : bd (a - b) C := by
  obtain ⟨h1, h2⟩ := ha
  obtain ⟨h3, h4⟩ := hb
  unfold bd
  rw [j_sub (by omega) (by omega)]; omega
theorem j_of (a : Int32) : (Int32.toInt64 a).toInt = a.toInt := Int32.toInt_toInt64 a
theorem bd_32 {a : Int32} {A : Int} (h1 : -A ≤ a.toInt) (h2 : a.toInt ≤ A) : bd (Int32.toInt64 a) A := by unfold bd; rw [j_of]; exact ⟨h1, h2⟩
theorem bd_cos {s : Int32} (h : -12 ≤ s.toInt ∧ s.toInt ≤ 12) : bd (f10_cosine s) 10000 ∧ bd (f10_sine s) 10000 := by
  obtain ⟨j, hj, rfl⟩ := step_nI h
  have : ∀ j : Nat, j < 25 → (-10000 ≤ (f10_cosine (nI j - 12)).toInt ∧ (f10_cosine (nI j - 12)).toInt ≤ 10000) ∧ (-10000 ≤ (f10_sine (nI j - 12)).toInt ∧ (f10_sine (nI j - 12)).toInt ≤ 10000) := by decide +kernel
  exact this j hj
theorem bd_20000 : bd (20000 : Int64) 20000 := by unfold bd; decide
theorem E_rg {σ : St} {i : Nat} {s x y : Int32} (h1 : 0 ≤ (gA σ 11 i).toInt ∧ (gA σ 11 i).toInt ≤ 10000) (h2 : -1000 ≤ (gA σ 12 i).toInt ∧ (gA σ 12 i).toInt ≤ 1000) (h3 : 10 ≤ (gA σ 13 i).toInt ∧ (gA σ 13 i).toInt ≤ 400) (hx : -1000 ≤ x.toInt ∧ x.toInt ≤ 1000) (hy : 0 ≤ y.toInt ∧ y.toInt ≤ 1000) (hs : -12 ≤ s.toInt ∧ s.toInt ≤ 12) : bd (E0 σ i s x y) 1000000000000 ∧ bd (E1 σ i s x y) 1000000000000 := by
  have bP := bd_32 (a := gA σ 11 i) (A := 10000) (by omega) (by omega)
  have bH := bd_32 (a := gA σ 12 i) (A := 1000) (by omega) (by omega)
  have bW := bd_32 (a := gA σ 13 i) (A := 400) (by omega) (by omega)
  have bx := bd_32 (a := x) (A := 1000) (by omega) (by omega)
  have by' := bd_32 (a := y) (A := 1000) (by omega) (by omega)
  obtain ⟨bc, bs⟩ := bd_cos hs
  have q1 := bd_mul (bd_mul bd_20000 bP (C := 200000000) (by decide) (by decide)) by' (C := 200000000000) (by decide) (by decide)
  have q2 := bd_mul (bd_mul bd_20000 bH (C := 20000000) (by decide) (by decide)) bx (C := 20000000000) (by decide) (by decide)
  have q3 := bd_sub q1 q2 (C := 220000000000) (by decide) (by decide)
  have q4 := bd_mul bW (bd_sub (bd_mul bc by' (C := 10000000) (by decide) (by decide)) (bd_mul bs bx (C := 10000000) (by decide) (by decide)) (C := 20000000) (by decide) (by decide)) (C := 8000000000) (by decide) (by decide)
  have q5 := bd_sub q3 q4 (C := 228000000000) (by decide) (by decide)
  have q6 := bd_add q3 q4 (C := 228000000000) (by decide) (by decide)
  exact ⟨⟨by have := q5.1; unfold E0; omega, by have := q5.2; unfold E0; omega⟩, ⟨by have := q6.1; unfold E1; omega, by have := q6.2; unfold E1; omega⟩⟩
def Z0 (τ : St) (a : Int32) (i : Nat) : Int := (f10_look τ (nI i) 0 a).toInt
def Z1 (τ : St) (a : Int32) (i : Nat) : Int := (f10_look τ (nI i) 1 a).toInt
/-- class and reference see the same -/
def JN (ρ τ : St) (a : Int32) : Prop := Safe ρ ∧ Safe τ ∧ gI ρ 2 = gI τ 20 ∧ gI ρ 3 = gA τ 27 (Int32.toNatClampNeg a) ∧ LkG ρ τ a ∧ LkZ τ a (gI ρ 2).toInt (Z0 τ a) (Z1 τ a)
theorem LkZ_of {k : Nat} {σ τ : St} (h : Rel k σ) {a : Int32} (ha : vp_in a 24) (g : ∀ j, (21 ≤ j ∧ j ≤ 23) ∨ 27 ≤ j ∧ j ≤ 28 → gA τ j = gA σ j) (hst : ∀ i : Nat, (i : Int) < (gI σ 2).toInt → -12 ≤ (f10_stepAt τ (nI i)).toInt ∧ (f10_stepAt τ (nI i)).toInt ≤ 12) : LkZ τ a (gI σ 2).toInt (Z0 τ a) (Z1 τ a) := by
  intro i hi
  have hc := h.1.cnt
  obtain ⟨⟨q1, q2, q3, q4, q5, q6, q7⟩, s1, s2, s3, s4, s5, s6⟩ := h.2.1.2 i hi
  obtain ⟨⟨p1, p2⟩, p3, p4⟩ := h.2.2.1 _ (vlt ha)
  have eN := N_nI (i := i) (by omega)
  have le := look_E (σ := σ) (τ := τ) (r := nI i) (h := a) (s := f10_stepAt τ (nI i)) (x := gA σ 2 (Int32.toNatClampNeg a)) (y := gA σ 3 (Int32.toNatClampNeg a)) (by rw [eN, g 21 (by omega)]; exact q2.symm) (by rw [eN, g 22 (by omega)]; exact q3.symm) (by rw [eN, g 23 (by omega)]; exact q4.symm) (by rw [g 27 (by omega)]; exact p1.symm) (by rw [g 28 (by omega)]; exact p2.symm) rfl
  rw [eN] at le
  obtain ⟨r1, r2⟩ := E_rg (σ := σ) (i := i) s2 s3 s4 p3 p4 (hst i hi)
  refine ⟨⟨rfl, rfl⟩, ?_, ?_⟩
  · unfold Z0; rw [le.1]; exact r1
  · unfold Z1; rw [le.2]; exact r2
theorem JN_of {k : Nat} {σ τ : St} (h : Rel k σ) {a : Int32} (ha : vp_in a 24) (g : Ag mI mA mB (f9_lookFrom σ a) τ) (hs : Safe τ) : JN (f9_lookFrom σ a) τ a := by
  obtain ⟨sp1, sp2, sp3⟩ := lookFrom_spec h ha
  have hr := lookFrom_Rel h ha
  have hc := hr.1.cnt
  have h2 : gI (f9_lookFrom σ a) 2 = gI σ 2 := sp1.1 2 rfl
  refine ⟨hr.1, hs, ?_, ?_, fun r r1 r2 => ?_, ?_⟩
  · rw [g.1 20 rfl]; exact hr.2.1.1
  · rw [sp2, g.2.1 27 rfl, sp1.2.1 27 rfl]; exact (h.2.2.1 _ (vlt ha)).1.1
  · rw [look_ag g, look_ag g]; exact sp3 r r1 r2
  · refine LkZ_of hr ha (fun j hj => ?_) (fun i hi => ?_)
    · refine g.2.1 j ?_
      unfold mA
      simp only [Bool.or_eq_true, beq_iff_eq]
      omega
    · have e29 : gI τ 29 = 99 := (g.1 29 rfl).trans hr.2.2.2.2.2.2.2
      have eN := N_nI (i := i) (by omega)
      rw [step99 e29, eN, g.2.1 25 rfl, ← (hr.2.1.2 i hi).1.2.2.2.2.2.1]
      exact hr.1.stp i (by omega)
theorem JN.g4 {ρ τ : St} {a : Int32} (J : JN ρ τ a) {i : Nat} (hi : (i : Int) < (gI ρ 2).toInt) : (gB ρ 4 i).toInt = Z0 τ a i ∧ (gB ρ 5 i).toInt = Z1 τ a i := by
  have hc := J.1.cnt
  have e1 := nI_t10 (i := i) (by omega)
  have eN := N_nI (i := i) (by omega)
  obtain ⟨z1, z2⟩ := J.2.2.2.2.1 (nI i) (by omega) (by omega)
  rw [eN] at z1 z2
  rw [z1, z2]; exact ⟨rfl, rfl⟩
theorem st_Z {ρ : St} {r : Int32} {k : Nat} (hk : k < 10) : (f2_shadeStart ρ r (nI k)).toInt = max (gB ρ 4 (Int32.toNatClampNeg r)).toInt (min (gB ρ 4 k).toInt (gB ρ 5 k).toInt) ∧ (f2_shadeEnd ρ r (nI k)).toInt = min (gB ρ 5 (Int32.toNatClampNeg r)).toInt (max (gB ρ 4 k).toInt (gB ρ 5 k).toInt) := by
  unfold f2_shadeStart f2_shadeEnd
  rw [N_nI hk]
  simp only [l_lt]
  by_cases c1 : (gB ρ 5 k).toInt < (gB ρ 4 k).toInt
  · simp only [if_pos c1]
    by_cases c2 : (gB ρ 5 k).toInt < (gB ρ 4 (Int32.toNatClampNeg r)).toInt
    · by_cases c3 : (gB ρ 4 k).toInt < (gB ρ 5 (Int32.toNatClampNeg r)).toInt
      · rw [if_pos c2, if_pos c3]; omega
      · rw [if_pos c2, if_neg c3]; omega
    · by_cases c3 : (gB ρ 4 k).toInt < (gB ρ 5 (Int32.toNatClampNeg r)).toInt
      · rw [if_neg c2, if_pos c3]; omega
      · rw [if_neg c2, if_neg c3]; omega
  · simp only [if_neg c1]
    by_cases c2 : (gB ρ 4 k).toInt < (gB ρ 4 (Int32.toNatClampNeg r)).toInt
    · by_cases c3 : (gB ρ 5 k).toInt < (gB ρ 5 (Int32.toNatClampNeg r)).toInt
      · rw [if_pos c2, if_pos c3]; omega
      · rw [if_pos c2, if_neg c3]; omega
    · by_cases c3 : (gB ρ 5 k).toInt < (gB ρ 5 (Int32.toNatClampNeg r)).toInt
      · rw [if_neg c2, if_pos c3]; omega
      · rw [if_neg c2, if_neg c3]; omega
theorem fa_la {ρ : St} {r : Int32} (hc : (gI ρ 2).toInt ≤ 10) (h0 : 0 ≤ r.toInt) (h1 : r.toInt < (gI ρ 2).toInt) : (0 ≤ (f0_firstAhead ρ r).toInt ∧ (f0_firstAhead ρ r).toInt ≤ 10) ∧ (f0_lastAhead ρ r).toInt ≤ 9 ∧ ∀ k : Nat, ((f0_firstAhead ρ r).toInt ≤ k ∧ (k : Int) ≤ (f0_lastAhead ρ r).toInt) ↔ ((k : Int) < (gI ρ 2).toInt ∧ AH (gI ρ 3).toInt r.toInt k) := by
  have e1 : (r + 1).toInt = r.toInt + 1 := i_add1 (b := 10) (by omega) (by omega)
  have e2 : (r - 1).toInt = r.toInt - 1 := by rw [i_sub (by rw [lit_1]; omega) (by rw [lit_1]; omega), lit_1]
  have e3 : (gI ρ 2 - 1).toInt = (gI ρ 2).toInt - 1 := by rw [i_sub (by rw [lit_1]; omega) (by rw [lit_1]; omega), lit_1]
  unfold f0_firstAhead f0_lastAhead AH
  by_cases c1 : gI ρ 3 = 0
  · rw [if_pos c1, if_pos (by rw [c1]; decide), lit_m1, lit_0, c1, lit_0]
    exact ⟨by omega, by omega, fun k => by omega⟩
  · rw [if_neg c1]
    rw [i_eq, lit_0] at c1
    by_cases c2 : gI ρ 3 ≤ 0
    · rw [if_pos c2, if_pos c2]
      rw [i_le, lit_0] at c2
      rw [lit_0, e2]
      exact ⟨by omega, by omega, fun k => by omega⟩
    · rw [if_neg c2, if_neg c2]
      rw [i_le, lit_0] at c2
      rw [e1, e3]
      exact ⟨by omega, by omega, fun k => by omega⟩
/-- what lies in the class's pieces -/
theorem cast_spec {ρ τ : St} {a r : Int32} (J : JN ρ τ a) (h0 : 0 ≤ r.toInt) (h1 : r.toInt < (gI ρ 2).toInt) : PcS (f0_castShade ρ r) ∧ (∀ u v, Pc (f0_castShade ρ r) u v ↔ ∃ k : Nat, (k : Int) < (gI ρ 2).toInt ∧ AH (gI ρ 3).toInt r.toInt k ∧ ¬ f2_shadeEnd ρ r (nI k) ≤ f2_shadeStart ρ r (nI k) ∧ u = f2_shadeStart ρ r (nI k) ∧ v = f2_shadeEnd ρ r (nI k)) ∧ Ag i13 pT b67 ρ (f0_castShade ρ r) ∧ (0 ≤ (gI (f0_castShade ρ r) 13).toInt ∧ (gI (f0_castShade ρ r) 13).toInt ≤ 10) := by
  obtain ⟨f1, f2, f3⟩ := fa_la J.1.cnt.2 h0 h1
  unfold f0_castShade f2_cast
  obtain ⟨y1, y2, y3, y4⟩ := castL r (f0_lastAhead ρ r) f2 11 (uI ρ 13 0) (f0_firstAhead ρ r) f1.1 f1.2 (by omega) (by show 0 ≤ (0 : Int32).toInt; rw [lit_0]; omega) (by show (0 : Int32).toInt ≤ _; rw [lit_0]; omega) (fun i hi => by have hi2 : (i : Int) + 1 < (0 : Int32).toInt := hi; rw [lit_0] at hi2; omega)
  refine ⟨y1, fun u v => ?_, ((Ag.rf ρ).uI rfl).tr y3, y4⟩
  rw [y2 u v]
  constructor
  · rintro (⟨j, j1, -⟩ | ⟨k, k1, k2, k3⟩)
    · have hi2 : (j : Int) < (0 : Int32).toInt := j1
      rw [lit_0] at hi2; omega
    · obtain ⟨g1, g2⟩ := (f3 k).mp ⟨k1, k2⟩
      exact ⟨k, g1, g2, k3⟩
  · rintro ⟨k, g1, g2, k3⟩
    obtain ⟨k1, k2⟩ := (f3 k).mpr ⟨g1, g2⟩
    exact Or.inr ⟨k, k1, k2, k3⟩
theorem JN.row {ρ τ : St} {a r : Int32} (J : JN ρ τ a) (h0 : 0 ≤ r.toInt) (h1 : r.toInt < (gI ρ 2).toInt) : ((Int32.toNatClampNeg r : Nat) : Int) = r.toInt ∧ nI (Int32.toNatClampNeg r) = r ∧ (f10_look τ r 0 a).toInt = Z0 τ a (Int32.toNatClampNeg r) ∧ (f10_look τ r 1 a).toInt = Z1 τ a (Int32.toNatClampNeg r) ∧ (-1000000000000 ≤ Z0 τ a (Int32.toNatClampNeg r) ∧ Z0 τ a (Int32.toNatClampNeg r) ≤ 1000000000000) ∧ (-1000000000000 ≤ Z1 τ a (Int32.toNatClampNeg r) ∧ Z1 τ a (Int32.toNatClampNeg r) ≤ 1000000000000) := by
  have hc := J.1.cnt
  have hN : ((Int32.toNatClampNeg r : Nat) : Int) = r.toInt := by simp only [Int32.toNatClampNeg]; omega
  have e := nI_N h0 (by omega)
  obtain ⟨-, b1, b2⟩ := J.2.2.2.2.2 (Int32.toNatClampNeg r) (by omega)
  refine ⟨hN, e, ?_, ?_, b1, b2⟩
  · unfold Z0; rw [e]
  · unfold Z1; rw [e]
theorem JN.br {ρ τ : St} {a r : Int32} (J : JN ρ τ a) (h0 : 0 ≤ r.toInt) (h1 : r.toInt < (gI ρ 2).toInt) : (f10_breadthOf τ r a).toInt = Z1 τ a (Int32.toNatClampNeg r) - Z0 τ a (Int32.toNatClampNeg r) ∧ f2_stretch ρ r = f10_breadthOf τ r a := by
  obtain ⟨r1, r2, r3, r4, r5, r6⟩ := J.row h0 h1
  obtain ⟨z1, z2⟩ := J.2.2.2.2.1 r h0 h1
  unfold f10_breadthOf f2_stretch
  rw [z1, z2]
  refine ⟨?_, rfl⟩
  rw [j_sub (by omega) (by omega), r3, r4]
theorem JN.lit {ρ τ : St} {a r : Int32} (J : JN ρ τ a) (h0 : 0 ≤ r.toInt) (h1 : r.toInt < (gI ρ 2).toInt) : f2_isLit ρ r = 0 ↔ f10_breadthOf τ r a ≤ 0 := by
  obtain ⟨r1, r2, r3, r4, r5, r6⟩ := J.row h0 h1
  obtain ⟨b1, b2⟩ := J.br h0 h1
  obtain ⟨z1, z2⟩ := J.2.2.2.2.1 r h0 h1
  have hb : f10_breadthOf τ r a ≤ 0 ↔ Z1 τ a (Int32.toNatClampNeg r) - Z0 τ a (Int32.toNatClampNeg r) ≤ 0 := by rw [l_le, b1, jl_0]
  unfold f2_isLit
  rw [z1, z2, hb]
  by_cases c : f10_look τ r 1 a ≤ f10_look τ r 0 a
  · rw [if_pos c]
    rw [l_le] at c
    exact ⟨fun _ => by omega, fun _ => rfl⟩
  · rw [if_neg c]
    rw [l_le] at c
    exact ⟨fun q => absurd q (by decide), fun q => by omega⟩
/-- shade, as a count, on the reference's side -/
theorem JN.shade10 {ρ τ : St} {a r : Int32} (J : JN ρ τ a) (h0 : 0 ≤ r.toInt) (h1 : r.toInt < (gI ρ 2).toInt) {m : Nat} (hm : (m : Int) = Z1 τ a (Int32.toNatClampNeg r) - Z0 τ a (Int32.toNatClampNeg r)) : (f10_shadeOf τ r a).toInt = cnt (Cv (Z0 τ a) (Z1 τ a) (gI ρ 2).toInt (gI ρ 3).toInt r.toInt) (Z0 τ a (Int32.toNatClampNeg r)) m := by
  obtain ⟨r1, r2, r3, r4, r5, r6⟩ := J.row h0 h1
  have e0 : ((3 : Int64) * f10_look τ r 0 a).toInt = 3 * Z0 τ a (Int32.toNatClampNeg r) := by rw [j_mul (by rw [jl_3, r3]; omega) (by rw [jl_3, r3]; omega), jl_3, r3]
  have e1 : ((3 : Int64) * f10_look τ r 1 a).toInt = 3 * Z1 τ a (Int32.toNatClampNeg r) := by rw [j_mul (by rw [jl_3, r4]; omega) (by rw [jl_3, r4]; omega), jl_3, r4]
  unfold f10_shadeOf
  have sp := sw_spec J.2.1 (r := r) (h := a) (c := (gI ρ 2).toInt) (L0 := Z0 τ a) (L1 := Z1 τ a) (by rw [J.2.2.1]) J.1.cnt.2 J.2.2.2.2.2 (x := (gI ρ 3).toInt) (by rw [J.2.2.2.1]) (fr := (3 : Int64) * f10_look τ r 0 a) (to := (3 : Int64) * f10_look τ r 1 a) (3 * m) (by omega) (by omega) (by omega)
  rw [e0, cnt3] at sp
  have nn := cnt_nn (Cv (Z0 τ a) (Z1 τ a) (gI ρ 2).toInt (gI ρ 3).toInt r.toInt) (Z0 τ a (Int32.toNatClampNeg r)) m
  rw [Int64.toInt_div_of_ne_right _ _ (by decide), sp, jl_3, Int.tdiv_eq_ediv_of_nonneg (by omega)]
  omega
theorem JN.pcs {ρ τ : St} {a r : Int32} (J : JN ρ τ a) (h0 : 0 ≤ r.toInt) (h1 : r.toInt < (gI ρ 2).toInt) {k : Nat} (hk : (k : Int) < (gI ρ 2).toInt) : (f2_shadeStart ρ r (nI k)).toInt = max (Z0 τ a (Int32.toNatClampNeg r)) (min (Z0 τ a k) (Z1 τ a k)) ∧ (f2_shadeEnd ρ r (nI k)).toInt = min (Z1 τ a (Int32.toNatClampNeg r)) (max (Z0 τ a k) (Z1 τ a k)) := by
  have hc := J.1.cnt
  obtain ⟨r1, -⟩ := J.row h0 h1
  have g1 := J.g4 (i := k) hk
  have g2 := J.g4 (i := Int32.toNatClampNeg r) (by omega)
  have := st_Z (ρ := ρ) (r := r) (k := k) (by omega)
  rw [g1.1, g1.2, g2.1, g2.2] at this
  exact this
theorem JN.shade9 {ρ τ : St} {a r : Int32} (J : JN ρ τ a) (h0 : 0 ≤ r.toInt) (h1 : r.toInt < (gI ρ 2).toInt) {m : Nat} (hm : (m : Int) = Z1 τ a (Int32.toNatClampNeg r) - Z0 τ a (Int32.toNatClampNeg r)) : (f2_shaded (f0_castShade ρ r)).toInt = cnt (Cv (Z0 τ a) (Z1 τ a) (gI ρ 2).toInt (gI ρ 3).toInt r.toInt) (Z0 τ a (Int32.toNatClampNeg r)) m := by
  obtain ⟨r1, r2, r3, r4, r5, r6⟩ := J.row h0 h1
  obtain ⟨p1, p2, p3, p4⟩ := cast_spec J h0 h1
  rw [shd_spec p1 p4.1 p4.2 (A := Z0 τ a (Int32.toNatClampNeg r)) (m := m) (by omega) (by omega)]
  · refine cnt_cg (fun t g1 g2 => ⟨?_, ?_⟩)
    · rintro ⟨u, v, w, w2, w3⟩
      obtain ⟨k, k1, k2, k3, rfl, rfl⟩ := (p2 u v).mp w
      obtain ⟨s1, s2⟩ := J.pcs h0 h1 k1
      exact ⟨k, k1, k2, by omega, by omega⟩
    · rintro ⟨k, k1, k2, k3, k4⟩
      obtain ⟨s1, s2⟩ := J.pcs h0 h1 k1
      exact ⟨_, _, (p2 _ _).mpr ⟨k, k1, k2, by rw [l_le]; omega, rfl, rfl⟩, by omega, by omega⟩
  · intro i hi
    obtain ⟨k, k1, k2, k3, k4, k5⟩ := (p2 _ _).mp ⟨i, hi, rfl, rfl⟩
    obtain ⟨s1, s2⟩ := J.pcs h0 h1 k1
    rw [k4, k5]
    rw [l_le] at k3
    omega
theorem JN.shade_eq {ρ τ : St} {a r : Int32} (J : JN ρ τ a) (h0 : 0 ≤ r.toInt) (h1 : r.toInt < (gI ρ 2).toInt) (hl : ¬ f10_breadthOf τ r a ≤ 0) : f2_shaded (f0_castShade ρ r) = f10_shadeOf τ r a := by
  obtain ⟨b1, b2⟩ := J.br h0 h1
  rw [l_le, b1, jl_0] at hl
  obtain ⟨m, hm⟩ : ∃ m : Nat, (m : Int) = Z1 τ a (Int32.toNatClampNeg r) - Z0 τ a (Int32.toNatClampNeg r) := ⟨(Z1 τ a (Int32.toNatClampNeg r) - Z0 τ a (Int32.toNatClampNeg r)).toNat, by omega⟩
  rw [j_eq, J.shade9 h0 h1 hm, J.shade10 h0 h1 hm]
/-! the class's question: is it shaded -/
theorem isShL (σ : St) (a1 a3 : Int32) (h9 : a3.toInt ≤ 9) : ∀ (n : Nat) (j : Int32), 0 ≤ j.toInt → a3.toInt < j.toInt + n → (f2_isShaded_L σ a1 a3 n j = 0 ↔ ∀ k : Nat, j.toInt ≤ k → (k : Int) ≤ a3.toInt → f2_shadeEnd σ a1 (nI k) ≤ f2_shadeStart σ a1 (nI k))
  | 0, j, h0, hf => ⟨fun _ k k1 k2 => by omega, fun _ => rfl⟩
  | n + 1, j, h0, hf => by
    unfold f2_isShaded_L
    by_cases c : a3 < j
    · rw [if_pos c]
      have t := t_lt c rfl rfl
      exact ⟨fun _ k k1 k2 => by omega, fun _ => rfl⟩
    rw [if_neg c]
    have t := t_nlt c rfl rfl
    have e1 : (j + 1).toInt = j.toInt + 1 := i_add1 (b := 10) (by omega) (by omega)
    have hN : ((Int32.toNatClampNeg j : Nat) : Int) = j.toInt := by simp only [Int32.toNatClampNeg]; omega
    have hnI := nI_N h0 (by omega)
    by_cases c2 : f2_shadeEnd σ a1 j ≤ f2_shadeStart σ a1 j
    · rw [if_pos c2, isShL σ a1 a3 h9 n (j + 1) (by omega) (by omega)]
      constructor
      · intro q k k1 k2
        by_cases e : k = Int32.toNatClampNeg j
        · rw [e, hnI]; exact c2
        · exact q k (by omega) k2
      · intro q k k1 k2; exact q k (by omega) k2
    · rw [if_neg c2]
      constructor
      · intro q; exact absurd q (by decide)
      · intro q
        have := q (Int32.toNatClampNeg j) (by omega) (by omega)
        rw [hnI] at this; exact absurd this c2
theorem JN.free {ρ τ : St} {a r : Int32} (J : JN ρ τ a) (h0 : 0 ≤ r.toInt) (h1 : r.toInt < (gI ρ 2).toInt) (hl : ¬ f10_breadthOf τ r a ≤ 0) : f2_isShaded ρ r (f0_firstAhead ρ r) (f0_lastAhead ρ r) = 0 ↔ f10_shadeOf τ r a ≤ 0 := by
  obtain ⟨b1, b2⟩ := J.br h0 h1
  rw [l_le, b1, jl_0] at hl
  obtain ⟨m, hm⟩ : ∃ m : Nat, (m : Int) = Z1 τ a (Int32.toNatClampNeg r) - Z0 τ a (Int32.toNatClampNeg r) := ⟨(Z1 τ a (Int32.toNatClampNeg r) - Z0 τ a (Int32.toNatClampNeg r)).toNat, by omega⟩
  have s10 := J.shade10 h0 h1 hm
  obtain ⟨f1, f2, f3⟩ := fa_la J.1.cnt.2 h0 h1
  have hp := cnt_pos (P := Cv (Z0 τ a) (Z1 τ a) (gI ρ 2).toInt (gI ρ 3).toInt r.toInt) (a := Z0 τ a (Int32.toNatClampNeg r)) (n := m)
  unfold f2_isShaded
  rw [isShL ρ r (f0_lastAhead ρ r) f2 11 (f0_firstAhead ρ r) f1.1 (by omega), l_le, jl_0, s10]
  constructor
  · intro q
    have : ¬ 0 < cnt (Cv (Z0 τ a) (Z1 τ a) (gI ρ 2).toInt (gI ρ 3).toInt r.toInt) (Z0 τ a (Int32.toNatClampNeg r)) m := by
      rw [hp]
      rintro ⟨t, t1, t2, k, k1, k2, k3, k4⟩
      obtain ⟨g1, g2⟩ := (f3 k).mpr ⟨k1, k2⟩
      have w := q k g1 g2
      obtain ⟨s1, s2⟩ := J.pcs h0 h1 k1
      rw [l_le] at w
      omega
    omega
  · intro q k k1 k2
    obtain ⟨g1, g2⟩ := (f3 k).mp ⟨k1, k2⟩
    obtain ⟨s1, s2⟩ := J.pcs h0 h1 g1
    refine Classical.byContradiction (fun w => ?_)
    rw [l_le] at w
    have := hp.mpr ⟨(f2_shadeStart ρ r (nI k)).toInt, by omega, by omega, k, g1, g2, by omega, by omega⟩
    omega
