/-! the hour's book -/
def sixL (K : Nat) (val : St → Nat → Int64) : Nat → St → Int32 → St
  | 0, σ, _ => σ
  | n + 1, σ, j => if (6 : Int32) ≤ j then σ else sixL K val n (uB σ K (Int32.toNatClampNeg j) (val σ (Int32.toNatClampNeg j))) (j + 1)
theorem sixL_spec {K : Nat} {pb : Nat → Bool} (hpb : pb K = false) {val : St → Nat → Int64} (hst : ∀ (σ : St) (i i' : Nat) (v : Int64), i ≠ i' → val (uB σ K i' v) i = val σ i) : ∀ (n : Nat) (σ : St) (j : Int32) (jn : Nat), (jn : Int) = j.toInt → jn ≤ 6 → 6 < jn + n →
    Ag pT pT pb σ (sixL K val n σ j) ∧ (∀ i, jn ≤ i → i < 6 → gB (sixL K val n σ j) K i = val σ i) ∧ (∀ i, i < jn ∨ 6 ≤ i → gB (sixL K val n σ j) K i = gB σ K i)
  | 0, σ, j, jn, hj, h1, hf => by omega
  | n + 1, σ, j, jn, hj, h1, hf => by
    unfold sixL
    by_cases e : (6 : Int32) ≤ j
    · rw [if_pos e]
      rw [i_le, lit_6] at e
      exact ⟨Ag.rf _, fun i g1 g2 => by omega, fun i _ => rfl⟩
    rw [if_neg e]
    rw [i_le, lit_6] at e
    have e1 : (j + 1).toInt = j.toInt + 1 := i_add1 (b := 10) (by omega) (by omega)
    rw [N_of hj]
    obtain ⟨y1, y2, y3⟩ := sixL_spec hpb hst n (uB σ K jn (val σ jn)) (j + 1) (jn + 1) (by omega) (by omega) (by omega)
    refine ⟨((Ag.rf σ).uB hpb).tr y1, fun i g1 g2 => ?_, fun i g1 => ?_⟩
    · by_cases ei : i = jn
      · subst ei
        rw [y3 i (by omega), gBs]
      · rw [y2 i (by omega) g2, hst σ i jn _ ei]
    · rw [y3 i (by omega)]; exact gBn σ K _ (by omega)
def b2x (k : Nat) : Bool := k != 2
def b3x (k : Nat) : Bool := k != 3
def b10 (k : Nat) : Bool := k != 10
def b11 (k : Nat) : Bool := k != 11
theorem begin_lp : ∀ (n : Nat) (σ : St) (j : Int32), f1_begin_L n σ j = sixL 2 (fun _ _ => 0) n σ j
  | 0, _, _ => rfl
  | n + 1, σ, j => by
    rw [f1_begin_L, sixL]
    split
    · rfl
    · exact begin_lp n _ _
theorem wbP_lp : ∀ (n : Nat) (σ : St) (j : Int32), f10_writeBook_P n σ j = sixL 10 (fun _ _ => 0) n σ j
  | 0, _, _ => rfl
  | n + 1, σ, j => by
    rw [f10_writeBook_P, sixL]
    split
    · rfl
    · exact wbP_lp n _ _
theorem sums_lp : ∀ (n : Nat) (σ : St) (j : Int32), f1_addToSums_L n σ j = sixL 3 (fun σ i => gB σ 3 i + gB σ 2 i) n σ j
  | 0, _, _ => rfl
  | n + 1, σ, j => by
    rw [f1_addToSums_L, sixL]
    split
    · rfl
    · exact sums_lp n _ _
theorem wbU_lp : ∀ (n : Nat) (σ : St) (j : Int32), f10_writeBook_U n σ j = sixL 11 (fun σ i => gB σ 11 i + gB σ 10 i) n σ j
  | 0, _, _ => rfl
  | n + 1, σ, j => by
    rw [f10_writeBook_U, sixL]
    split
    · rfl
    · exact wbU_lp n _ _
theorem z6 : ((0 : Nat) : Int) = (0 : Int32).toInt := by rw [lit_0]; rfl
theorem sums_spec (σ : St) : Ag pT pT b3x σ (f1_addToSums σ) ∧ ∀ i, i < 6 → gB (f1_addToSums σ) 3 i = gB σ 3 i + gB σ 2 i := by
  unfold f1_addToSums
  rw [sums_lp]
  obtain ⟨y1, y2, y3⟩ := sixL_spec (K := 3) (pb := b3x) rfl (val := fun σ i => gB σ 3 i + gB σ 2 i) (fun σ i i' v h => by
    show gB (uB σ 3 i' v) 3 i + gB (uB σ 3 i' v) 2 i = _
    rw [gBn σ 3 v h]; rfl) 7 σ 0 0 z6 (by omega) (by omega)
  exact ⟨y1, fun i hi => y2 i (by omega) hi⟩
theorem wbU_spec (σ : St) : Ag pT pT b11 σ (f10_writeBook_U 7 σ 0) ∧ ∀ i, i < 6 → gB (f10_writeBook_U 7 σ 0) 11 i = gB σ 11 i + gB σ 10 i := by
  rw [wbU_lp]
  obtain ⟨y1, y2, y3⟩ := sixL_spec (K := 11) (pb := b11) rfl (val := fun σ i => gB σ 11 i + gB σ 10 i) (fun σ i i' v h => by
    show gB (uB σ 11 i' v) 11 i + gB (uB σ 11 i' v) 10 i = _
    rw [gBn σ 11 v h]; rfl) 7 σ 0 0 z6 (by omega) (by omega)
  exact ⟨y1, fun i hi => y2 i (by omega) hi⟩
theorem wbP_spec (σ : St) : Ag pT pT b10 σ (f10_writeBook_P 7 σ 0) ∧ ∀ i, i < 6 → gB (f10_writeBook_P 7 σ 0) 10 i = 0 := by
  rw [wbP_lp]
  obtain ⟨y1, y2, y3⟩ := sixL_spec (K := 10) (pb := b10) rfl (val := fun _ _ => 0) (fun σ i i' v h => rfl) 7 σ 0 0 z6 (by omega) (by omega)
  exact ⟨y1, fun i hi => y2 i (by omega) hi⟩
def i8910 (k : Nat) : Bool := k != 8 && k != 9 && k != 10
theorem begin_spec (σ : St) (H z : Int32) : Ag i8910 pT b2x σ (f1_begin σ H z) ∧ gI (f1_begin σ H z) 8 = 1 ∧ gI (f1_begin σ H z) 9 = z ∧ gI (f1_begin σ H z) 10 = H ∧ ∀ i, i < 6 → gB (f1_begin σ H z) 2 i = 0 := by
  unfold f1_begin
  rw [begin_lp]
  obtain ⟨y1, y2, y3⟩ := sixL_spec (K := 2) (pb := b2x) rfl (val := fun _ _ => 0) (fun σ i i' v h => rfl) 7 (uI (uI (uI σ 8 1) 10 H) 9 z) 0 0 z6 (by omega) (by omega)
  refine ⟨((((Ag.rf σ).uI rfl).uI rfl).uI rfl).tr (y1.mono (fun _ _ => rfl) (fun _ _ => rfl) (fun _ h => h)), y1.1 8 rfl, y1.1 9 rfl, y1.1 10 rfl, fun i hi => y2 i (by omega) hi⟩
/-- three and four writes -/
theorem g3 (σ : St) (K : Nat) {a b d : Nat} (h1 : a ≠ b) (h2 : a ≠ d) (h3 : b ≠ d) (X Y Z : Int64) : gB (uB (uB (uB σ K a X) K b Y) K d Z) K a = X ∧ gB (uB (uB (uB σ K a X) K b Y) K d Z) K b = Y ∧ gB (uB (uB (uB σ K a X) K b Y) K d Z) K d = Z ∧ ∀ q, q ≠ a → q ≠ b → q ≠ d → gB (uB (uB (uB σ K a X) K b Y) K d Z) K q = gB σ K q :=
  ⟨by rw [gBn _ K Z h2, gBn _ K Y h1, gBs], by rw [gBn _ K Z h3, gBs], gBs _ _ _ _, fun q q1 q2 q3 => by rw [gBn _ K Z q3, gBn _ K Y q2, gBn _ K X q1]⟩
theorem JN.agR {ρ τ υ : St} {a : Int32} (J : JN ρ τ a) (g : Ag mI mA mB τ υ) (hs : Safe υ) : JN ρ υ a := by
  obtain ⟨j1, j2, j3, j4, j5, j6⟩ := J
  have z0 : Z0 υ a = Z0 τ a := funext (fun i => by unfold Z0; rw [look_ag g])
  have z1 : Z1 υ a = Z1 τ a := funext (fun i => by unfold Z1; rw [look_ag g])
  refine ⟨j1, hs, by rw [g.1 20 rfl]; exact j3, by rw [g.2.1 27 rfl]; exact j4, fun r r1 r2 => ?_, fun i hi => ?_⟩
  · rw [look_ag g, look_ag g]; exact j5 r r1 r2
  · rw [z0, z1, look_ag g, look_ag g]; exact j6 i hi
theorem n0 : Int32.toNatClampNeg (0 : Int32) = 0 := rfl
theorem n1 : Int32.toNatClampNeg (1 : Int32) = 1 := rfl
theorem n2 : Int32.toNatClampNeg (2 : Int32) = 2 := rfl
theorem n3 : Int32.toNatClampNeg (3 : Int32) = 3 := rfl
theorem n4 : Int32.toNatClampNeg (4 : Int32) = 4 := rfl
theorem n5 : Int32.toNatClampNeg (5 : Int32) = 5 := rfl
theorem n6 : Int32.toNatClampNeg (6 : Int32) = 6 := rfl
theorem n7 : Int32.toNatClampNeg (7 : Int32) = 7 := rfl
/-- rows into the book -/
theorem bookP {a : Int32} {c : Nat} {str : Nat → Int32} {cur : Nat → Int} (h10 : c ≤ 10) : ∀ (n : Nat) (σ τ : St) (j : Int32) (jn : Nat), JN σ τ a → (c : Int) = (gI σ 2).toInt → (∀ i, i < c → gB σ 0 i = f10_clean τ (nI i) a ∧ gB σ 1 i = f10_dusted τ (nI i) a) → (∀ i, i < c → gA σ 16 i = str i ∧ gA τ 26 i = str i ∧ -1 ≤ (str i).toInt) → (∀ i, i < c → (f10_currentOf τ (nI i) a).toInt = cur i) →
    (gB σ 2 0 = gB τ 10 0 ∧ gB σ 2 1 = gB τ 10 1 ∧ gB σ 2 2 = gB τ 10 2) → gB τ 10 3 = Int64.ofInt (sN (fun i => if str i = -1 then 0 else cur i) jn) → (jn : Int) = j.toInt → jn ≤ c → c < jn + n →
    (gB (f5_bookInto_P n σ j) 2 0 = gB (f10_writeBook_Q a n τ j) 10 0 ∧ gB (f5_bookInto_P n σ j) 2 1 = gB (f10_writeBook_Q a n τ j) 10 1 ∧ gB (f5_bookInto_P n σ j) 2 2 = gB (f10_writeBook_Q a n τ j) 10 2) ∧ gB (f10_writeBook_Q a n τ j) 10 3 = Int64.ofInt (sN (fun i => if str i = -1 then 0 else cur i) c) ∧
    Ag pT pT b2x σ (f5_bookInto_P n σ j) ∧ Ag pT pT b10 τ (f10_writeBook_Q a n τ j) ∧ (∀ q, 3 ≤ q → gB (f5_bookInto_P n σ j) 2 q = gB σ 2 q) ∧ (∀ q, 4 ≤ q → gB (f10_writeBook_Q a n τ j) 10 q = gB τ 10 q)
  | 0, σ, τ, j, jn, J, hc, hU, hS, hcu, hq, h3, hj, h1, hf => by omega
  | n + 1, σ, τ, j, jn, J, hc, hU, hS, hcu, hq, h3, hj, h1, hf => by
    have hc20 : gI σ 2 = gI τ 20 := J.2.2.1
    unfold f5_bookInto_P f10_writeBook_Q
    rw [← hc20]
    by_cases e : gI σ 2 ≤ j
    · rw [if_pos e, if_pos e]
      rw [i_le] at e
      have e2 : jn = c := by omega
      rw [e2] at h3
      exact ⟨hq, h3, Ag.rf _, Ag.rf _, fun q _ => rfl, fun q _ => rfl⟩
    rw [if_neg e, if_neg e]
    rw [i_le] at e
    have e1 : (j + 1).toInt = j.toInt + 1 := i_add1 (b := 10) (by omega) (by omega)
    have hnI := nI_N (r := j) (by omega) (by omega)
    have hl := J.lit (r := j) (by omega) (by omega)
    have hbr := (J.br (r := j) (by omega) (by omega)).2
    have sS : sN (fun i => if str i = -1 then 0 else cur i) (jn + 1) = sN (fun i => if str i = -1 then 0 else cur i) jn + (if str jn = -1 then 0 else cur jn) := rfl
    rw [N_of hj] at hnI ⊢
    obtain ⟨s1, s2, s3⟩ := hS jn (by omega)
    obtain ⟨u1, u2⟩ := hU jn (by omega)
    have cu := hcu jn (by omega)
    rw [hnI] at u1 u2 cu
    rw [s1, s2]
    have skip : (if str jn = -1 then 0 else cur jn) = 0 → (gB (f5_bookInto_P n σ (j + 1)) 2 0 = gB (f10_writeBook_Q a n τ (j + 1)) 10 0 ∧ gB (f5_bookInto_P n σ (j + 1)) 2 1 = gB (f10_writeBook_Q a n τ (j + 1)) 10 1 ∧ gB (f5_bookInto_P n σ (j + 1)) 2 2 = gB (f10_writeBook_Q a n τ (j + 1)) 10 2) ∧ gB (f10_writeBook_Q a n τ (j + 1)) 10 3 = Int64.ofInt (sN (fun i => if str i = -1 then 0 else cur i) c) ∧
        Ag pT pT b2x σ (f5_bookInto_P n σ (j + 1)) ∧ Ag pT pT b10 τ (f10_writeBook_Q a n τ (j + 1)) ∧ (∀ q, 3 ≤ q → gB (f5_bookInto_P n σ (j + 1)) 2 q = gB σ 2 q) ∧ (∀ q, 4 ≤ q → gB (f10_writeBook_Q a n τ (j + 1)) 10 q = gB τ 10 q) := by
      intro z
      exact bookP h10 n σ τ (j + 1) (jn + 1) J hc hU hS hcu hq (by rw [sS, z, Int.add_zero]; exact h3) (by omega) (by omega) (by omega)
    by_cases c1 : str jn = -1
    · rw [if_pos c1, if_pos (show str jn < 0 by rw [c1]; decide)]
      exact skip (by rw [if_pos c1])
    have c1' : ¬ str jn < 0 := by
      rw [i_eq, lit_m1] at c1
      rw [i_lt, lit_0]; omega
    rw [if_neg c1, if_neg c1']
    by_cases c2 : f2_isLit σ j = 0
    · have c3 := hl.mp c2
      have c4 : ¬ (0 : Int64) < f10_breadthOf τ j a := by rw [l_lt]; rw [l_le] at c3; omega
      rw [if_pos c2, if_neg c4]
      refine skip ?_
      rw [if_neg c1, ← cu, (clean0 c3).2.2, jl_0]
    · have c3 : ¬ f10_breadthOf τ j a ≤ 0 := fun q => c2 (hl.mpr q)
      have c4 : (0 : Int64) < f10_breadthOf τ j a := by rw [l_lt]; rw [l_le] at c3; omega
      rw [if_neg c2, if_pos c4, hbr]
      generalize (3 : Int64) * f10_breadthOf τ j a / 3000000 = l
      rw [n0, n1, n2, n3]
      have A : ∀ X Y Z : Int64, Ag pT pT b2x σ (uB (uB (uB σ 2 0 X) 2 1 Y) 2 2 Z) := fun X Y Z => (((Ag.rf σ).uB rfl).uB rfl).uB rfl
      have m0 : ∀ X : Int64, Ag mI mA mB τ (uB τ 10 0 X) := fun X => (Ag.rf τ).uB rfl
      have m1 : ∀ X Y : Int64, Ag mI mA mB τ (uB (uB τ 10 0 X) 10 1 Y) := fun X Y => ((Ag.rf τ).uB rfl).uB rfl
      have m2 : ∀ X Y Z : Int64, Ag mI mA mB τ (uB (uB (uB τ 10 0 X) 10 1 Y) 10 2 Z) := fun X Y Z => (((Ag.rf τ).uB rfl).uB rfl).uB rfl
      rw [clean_ag (m0 _), dusted_ag (m1 _ _), current_ag (m2 _ _ _)]
      have r1 : ∀ X : Int64, gB (uB σ 2 0 X) 2 1 = gB σ 2 1 := fun X => rfl
      have r2 : ∀ X Y : Int64, gB (uB (uB σ 2 0 X) 2 1 Y) 2 2 = gB σ 2 2 := fun X Y => rfl
      have r3 : ∀ X : Int64, gB (uB σ 2 0 X) 0 jn = gB σ 0 jn := fun X => rfl
      have r4 : ∀ X Y : Int64, gB (uB (uB σ 2 0 X) 2 1 Y) 1 jn = gB σ 1 jn := fun X Y => rfl
      have t1 : ∀ X : Int64, gB (uB τ 10 0 X) 10 1 = gB τ 10 1 := fun X => rfl
      have t2 : ∀ X Y : Int64, gB (uB (uB τ 10 0 X) 10 1 Y) 10 2 = gB τ 10 2 := fun X Y => rfl
      have t3 : ∀ X Y Z : Int64, gB (uB (uB (uB τ 10 0 X) 10 1 Y) 10 2 Z) 10 3 = gB τ 10 3 := fun X Y Z => rfl
      rw [r1, r2, r3, r4, t1, t2, t3, u1, u2]
      obtain ⟨w0, w1, w2, w3⟩ := g3 σ 2 (a := 0) (b := 1) (d := 2) (by decide) (by decide) (by decide) (gB σ 2 0 + l) (gB σ 2 1 + (l - f10_clean τ j a)) (gB σ 2 2 + f10_dusted τ j a)
      obtain ⟨v0, v1, v2, v3⟩ := g3 τ 10 (a := 0) (b := 1) (d := 2) (by decide) (by decide) (by decide) (gB τ 10 0 + l) (gB τ 10 1 + (l - f10_clean τ j a)) (gB τ 10 2 + f10_dusted τ j a)
      have A1 := A (gB σ 2 0 + l) (gB σ 2 1 + (l - f10_clean τ j a)) (gB σ 2 2 + f10_dusted τ j a)
      have M1 := m2 (gB τ 10 0 + l) (gB τ 10 1 + (l - f10_clean τ j a)) (gB τ 10 2 + f10_dusted τ j a)
      have A2 : Ag pT pT b10 τ (uB (uB (uB τ 10 0 (gB τ 10 0 + l)) 10 1 (gB τ 10 1 + (l - f10_clean τ j a))) 10 2 (gB τ 10 2 + f10_dusted τ j a)) := (((Ag.rf τ).uB rfl).uB rfl).uB rfl
      have hs1 : Safe (uB (uB (uB σ 2 0 (gB σ 2 0 + l)) 2 1 (gB σ 2 1 + (l - f10_clean τ j a))) 2 2 (gB σ 2 2 + f10_dusted τ j a)) := sf_B (sf_B (sf_B J.1))
      have hs2 : Safe (uB (uB (uB τ 10 0 (gB τ 10 0 + l)) 10 1 (gB τ 10 1 + (l - f10_clean τ j a))) 10 2 (gB τ 10 2 + f10_dusted τ j a)) := sf_B (sf_B (sf_B J.2.1))
      generalize uB (uB (uB σ 2 0 (gB σ 2 0 + l)) 2 1 (gB σ 2 1 + (l - f10_clean τ j a))) 2 2 (gB σ 2 2 + f10_dusted τ j a) = σ' at *
      generalize uB (uB (uB τ 10 0 (gB τ 10 0 + l)) 10 1 (gB τ 10 1 + (l - f10_clean τ j a))) 10 2 (gB τ 10 2 + f10_dusted τ j a) = τ' at *
      have M2 : Ag mI mA mB τ (uB τ' 10 3 (gB τ 10 3 + f10_currentOf τ j a)) := M1.uB rfl
      have A3 : Ag pT pT b10 τ (uB τ' 10 3 (gB τ 10 3 + f10_currentOf τ j a)) := A2.uB rfl
      have J' : JN σ' (uB τ' 10 3 (gB τ 10 3 + f10_currentOf τ j a)) a := (J.ag hs1 (A1.1 2 rfl) (A1.1 3 rfl) (A1.2.2 4 rfl) (A1.2.2 5 rfl)).agR M2 (sf_B hs2)
      obtain ⟨y1, y2, y3, y4, y5, y6⟩ := bookP (a := a) (c := c) (str := str) (cur := cur) h10 n σ' (uB τ' 10 3 (gB τ 10 3 + f10_currentOf τ j a)) (j + 1) (jn + 1) J' (by rw [A1.1 2 rfl]; exact hc) (fun i hi => by rw [A1.2.2 0 rfl, A1.2.2 1 rfl, clean_ag M2, dusted_ag M2]; exact hU i hi) (fun i hi => by rw [A1.2.1 16 rfl, M2.2.1 26 rfl]; exact hS i hi) (fun i hi => by rw [current_ag M2]; exact hcu i hi)
        (by
          refine ⟨?_, ?_, ?_⟩
          · rw [w0, gBn τ' 10 _ (by decide), v0, hq.1]
          · rw [w1, gBn τ' 10 _ (by decide), v1, hq.2.1]
          · rw [w2, gBn τ' 10 _ (by decide), v2, hq.2.2])
        (by rw [gBs, h3, sS, if_neg c1, Int64.ofInt_add, ← cu, Int64.ofInt_toInt]) (by omega) (by omega) (by omega)
      refine ⟨y1, y2, A1.tr y3, A3.tr y4, fun q hq2 => ?_, fun q hq2 => ?_⟩
      · rw [y5 q hq2]; exact w3 q (by omega) (by omega) (by omega)
      · rw [y6 q hq2, gBn τ' 10 _ (by omega)]; exact v3 q (by omega) (by omega) (by omega)
