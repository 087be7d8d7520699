/-! ranked currents of a string -/
def i4 (k : Nat) : Bool := k != 4
def a5 (k : Nat) : Bool := k != 5
def b12 (k : Nat) : Bool := k != 12
def INS (a : Int32) (σ τ : St) (j : Int32) (p : Nat) : Prop := (p : Int) ≤ j.toInt ∧ gI τ 4 = gI σ 4 + 1 ∧ Ag i4 a5 pT σ τ ∧ (∀ i : Nat, i < p → gA τ 5 i = gA σ 5 i) ∧ gA τ 5 p = a ∧ (∀ i : Nat, p ≤ i → (i : Int) < j.toInt → gA τ 5 (i + 1) = gA σ 5 i) ∧ (∀ i : Nat, j.toInt < i → gA τ 5 i = gA σ 5 i) ∧ (∀ i : Nat, i + 1 = p → a.toInt ≤ (gA σ 5 i).toInt) ∧ (∀ i : Nat, p ≤ i → (i : Int) < j.toInt → (gA σ 5 i).toInt < a.toInt)
theorem insL (a : Int32) : ∀ (n : Nat) (σ : St) (j : Int32), 0 ≤ j.toInt → j.toInt ≤ 9 → j.toInt < n → ∃ p : Nat, INS a σ (f5_insert_L a n σ j) j p
  | 0, σ, j, h0, h1, h2 => by omega
  | n + 1, σ, j, h0, h1, h2 => by
    have hN : ((Int32.toNatClampNeg j : Nat) : Int) = j.toInt := by simp only [Int32.toNatClampNeg]; omega
    have putp : ∀ q : Nat, q = Int32.toNatClampNeg j → (∀ i : Nat, i + 1 = q → a.toInt ≤ (gA σ 5 i).toInt) → INS a σ (uI (uA σ 5 q a) 4 (gI σ 4 + 1)) j q := by
      intro q hq hle
      rw [← hq] at hN
      exact ⟨by omega, rfl, ((Ag.rf σ).uA rfl).uI rfl, fun i hi => gAn σ 5 a (by omega), gAs σ 5 q a, fun i g1 g2 => by omega, fun i g1 => gAn σ 5 a (by omega), hle, fun i g1 g2 => by omega⟩
    by_cases c : j ≤ 0
    · have t := t_le c rfl lit_0
      refine ⟨Int32.toNatClampNeg j, ?_⟩
      rw [f5_insert_L, if_pos c]
      exact putp _ rfl (fun i hi => by omega)
    · have t := t_nle c rfl lit_0
      have hj1 : (j - 1).toInt = j.toInt - 1 := by rw [i_sub (by rw [lit_1]; omega) (by rw [lit_1]; omega), lit_1]
      have hN1 : ((Int32.toNatClampNeg (j - 1) : Nat) : Int) = j.toInt - 1 := by simp only [Int32.toNatClampNeg]; omega
      by_cases c2 : a ≤ gA σ 5 (Int32.toNatClampNeg (j - 1))
      · refine ⟨Int32.toNatClampNeg j, ?_⟩
        rw [f5_insert_L, if_neg c, if_pos c2]
        refine putp _ rfl (fun i hi => ?_)
        rw [i_le] at c2
        rw [show i = Int32.toNatClampNeg (j - 1) by omega]; exact c2
      · rw [f5_insert_L, if_neg c, if_neg c2]
        have hjm : (j + (-1 : Int32)).toInt = j.toInt - 1 := by rw [i_add (by rw [lit_m1]; omega) (by rw [lit_m1]; omega), lit_m1]; omega
        generalize Int32.toNatClampNeg j = q at hN
        generalize Int32.toNatClampNeg (j - 1) = q1 at hN1 c2
        obtain ⟨p, p0, p1, p2, p3, p4, p5, p6, p7, p8⟩ := insL a n (uA σ 5 q (gA σ 5 q1)) (j + (-1 : Int32)) (by omega) (by omega) (by omega)
        have o5 : ∀ i, i ≠ q → gA (uA σ 5 q (gA σ 5 q1)) 5 i = gA σ 5 i := fun i hi => gAn σ 5 _ hi
        have n5 : gA (uA σ 5 q (gA σ 5 q1)) 5 q = gA σ 5 q1 := gAs σ 5 q _
        refine ⟨p, by omega, p1, ((Ag.rf σ).uA rfl).tr p2, fun i hi => ?_, p4, fun i g1 g2 => ?_, fun i g1 => ?_, fun i hi => ?_, fun i g1 g2 => ?_⟩
        · rw [p3 i hi]; exact o5 i (by omega)
        · by_cases e : i = q1
          · subst e
            rw [p6 (i + 1) (by omega), show i + 1 = q by omega]; exact n5
          · rw [p5 i g1 (by omega)]; exact o5 i (by omega)
        · rw [p6 i (by omega)]; exact o5 i (by omega)
        · have w := p7 i hi
          rw [o5 i (by omega)] at w; exact w
        · by_cases e : i = q1
          · subst e; rw [i_le] at c2; omega
          · have w := p8 i g1 (by omega)
            rw [o5 i (by omega)] at w; exact w
theorem ins_spec {σ : St} {a : Int32} {m : Nat} (hm : (m : Int) = (gI σ 4).toInt) (h1 : m < 10) (hS : ∀ i, i + 1 < m → (gA σ 5 (i + 1)).toInt ≤ (gA σ 5 i).toInt) :
    ((m + 1 : Nat) : Int) = (gI (f5_insert σ a) 4).toInt ∧ (∀ i, i + 1 < m + 1 → (gA (f5_insert σ a) 5 (i + 1)).toInt ≤ (gA (f5_insert σ a) 5 i).toInt) ∧ (∀ φ : Int → Int, sN (fun i => φ (gA (f5_insert σ a) 5 i).toInt) (m + 1) = sN (fun i => φ (gA σ 5 i).toInt) m + φ a.toInt) ∧ Ag i4 a5 pT σ (f5_insert σ a) := by
  unfold f5_insert
  rw [if_pos (by rw [i_lt, lit_10]; omega)]
  obtain ⟨p, p0, p1, p2, p3, p4, p5, p6, p7, p8⟩ := insL a 11 σ (gI σ 4) (by omega) (by omega) (by omega)
  generalize f5_insert_L a 11 σ (gI σ 4) = ρ at *
  refine ⟨by rw [p1, i_add1 (b := 10) (by omega) (by omega)]; omega, fun i hi => ?_, fun φ => ?_, p2⟩
  · by_cases g1 : i + 1 < p
    · rw [p3 i (by omega), p3 (i + 1) g1]; exact hS i (by omega)
    · by_cases g2 : i + 1 = p
      · rw [p3 i (by omega), g2, p4]; exact p7 i g2
      · by_cases g3 : i = p
        · subst g3
          rw [p4, p5 i (by omega) (by omega)]
          have := p8 i (by omega) (by omega); omega
        · obtain ⟨i', rfl⟩ : ∃ i', i = i' + 1 := ⟨i - 1, by omega⟩
          rw [p5 i' (by omega) (by omega), p5 (i' + 1) (by omega) (by omega)]; exact hS i' (by omega)
  · refine sN_ins (p := p) (by omega) (fun i hi => ?_) ?_ (fun i g1 g2 => ?_)
    · show φ (gA ρ 5 i).toInt = φ (gA σ 5 i).toInt
      rw [p3 i hi]
    · show φ (gA ρ 5 p).toInt = _
      rw [p4]
    · show φ (gA ρ 5 (i + 1)).toInt = φ (gA σ 5 i).toInt
      rw [p5 i g1 (by omega)]
def RK (σ : St) (s : Int32) (j m : Nat) : Prop := (m : Int) = (gI σ 4).toInt ∧ m ≤ j ∧ (∀ i, i + 1 < m → (gA σ 5 (i + 1)).toInt ≤ (gA σ 5 i).toInt) ∧ ∀ φ : Int → Int, sN (fun i => φ (gA σ 5 i).toInt) m = sN (fun i => if gA σ 16 i = s then φ (gA σ 1 i).toInt else 0) j
theorem N_of {j : Int32} {jn : Nat} (h : (jn : Int) = j.toInt) : Int32.toNatClampNeg j = jn := by
  simp only [Int32.toNatClampNeg]; omega
theorem rankL {s : Int32} {c : Nat} : ∀ (n : Nat) (σ : St) (j : Int32) (m jn : Nat), (c : Int) = (gI σ 2).toInt → c ≤ 10 → (jn : Int) = j.toInt → jn ≤ c → c < jn + n → RK σ s jn m → ∃ m', RK (f5_rank_L s n σ j) s c m' ∧ Ag i4 a5 pT σ (f5_rank_L s n σ j)
  | 0, σ, j, m, jn, hc, h10, hj, h1, hf, K => by omega
  | n + 1, σ, j, m, jn, hc, h10, hj, h1, hf, K => by
    unfold f5_rank_L
    by_cases e : gI σ 2 ≤ j
    · rw [if_pos e]
      rw [i_le] at e
      have e2 : jn = c := by omega
      rw [e2] at K
      exact ⟨m, K, Ag.rf _⟩
    rw [if_neg e]
    rw [i_le] at e
    have e1 : (j + 1).toInt = j.toInt + 1 := i_add1 (b := 10) (by omega) (by omega)
    rw [N_of hj]
    obtain ⟨k1, k2, k3, k4⟩ := K
    have a : ∀ φ : Int → Int, sN (fun i => if gA σ 16 i = s then φ (gA σ 1 i).toInt else 0) (jn + 1) = sN (fun i => if gA σ 16 i = s then φ (gA σ 1 i).toInt else 0) jn + (if gA σ 16 jn = s then φ (gA σ 1 jn).toInt else 0) := fun φ => rfl
    by_cases c2 : gA σ 16 jn = s
    · rw [if_pos c2]
      obtain ⟨q1, q2, q3, q4⟩ := ins_spec (σ := σ) (a := gA σ 1 jn) k1 (by omega) k3
      have K' : RK (f5_insert σ (gA σ 1 jn)) s (jn + 1) (m + 1) := by
        refine ⟨q1, by omega, q2, fun φ => ?_⟩
        rw [q3 φ, k4 φ, q4.2.1 16 rfl, q4.2.1 1 rfl, a φ, if_pos c2]
      obtain ⟨m', y1, y2⟩ := rankL n (f5_insert σ (gA σ 1 jn)) (j + 1) (m + 1) (jn + 1) (by rw [q4.1 2 rfl]; exact hc) h10 (by omega) (by omega) (by omega) K'
      exact ⟨m', y1, q4.tr y2⟩
    · rw [if_neg c2]
      have K' : RK σ s (jn + 1) m := by
        refine ⟨k1, by omega, k3, fun φ => ?_⟩
        rw [k4 φ, a φ, if_neg c2, Int.add_zero]
      exact rankL n σ (j + 1) m (jn + 1) hc h10 (by omega) (by omega) (by omega) K'
theorem rank_spec {σ : St} {s : Int32} {c : Nat} (hc : (c : Int) = (gI σ 2).toInt) (h10 : c ≤ 10) : ∃ m, RK (f5_rank σ s) s c m ∧ Ag i4 a5 pT σ (f5_rank σ s) := by
  unfold f5_rank
  have K : RK (uI σ 4 0) s 0 0 := ⟨by show ((0 : Nat) : Int) = (0 : Int32).toInt; rw [lit_0]; rfl, Nat.le_refl _, fun i hi => by omega, fun φ => rfl⟩
  obtain ⟨m, y1, y2⟩ := rankL 11 (uI σ 4 0) 0 0 0 hc h10 (by rw [lit_0]; rfl) (by omega) (by omega) K
  exact ⟨m, y1, ((Ag.rf σ).uI rfl).tr y2⟩
theorem bestL {σ : St} {m : Nat} (hm : (m : Int) = (gI σ 4).toInt) (h10 : m ≤ 10) (hB : ∀ i, i < m → 0 ≤ (gA σ 5 i).toInt ∧ (gA σ 5 i).toInt ≤ 2000000) : ∀ (n : Nat) (b j : Int32) (jn : Nat), (jn : Int) = j.toInt → jn ≤ m → m < jn + n → 0 ≤ b.toInt → b.toInt ≤ 20000000 →
    (b.toInt ≤ (f5_best_L σ n b j).toInt ∧ (f5_best_L σ n b j).toInt ≤ 20000000) ∧ (∀ i : Nat, jn ≤ i → i < m → ((i : Int) + 1) * (gA σ 5 i).toInt ≤ (f5_best_L σ n b j).toInt) ∧ ((f5_best_L σ n b j).toInt = b.toInt ∨ ∃ i : Nat, i < m ∧ (f5_best_L σ n b j).toInt = ((i : Int) + 1) * (gA σ 5 i).toInt)
  | 0, b, j, jn, hj, h1, hf, b0, b1 => by omega
  | n + 1, b, j, jn, hj, h1, hf, b0, b1 => by
    unfold f5_best_L
    by_cases e : gI σ 4 ≤ j
    · rw [if_pos e]
      rw [i_le] at e
      exact ⟨⟨Int.le_refl _, b1⟩, fun i g1 g2 => by omega, Or.inl rfl⟩
    rw [if_neg e]
    rw [i_le] at e
    have e1 : (j + 1).toInt = j.toInt + 1 := i_add1 (b := 10) (by omega) (by omega)
    rw [N_of hj]
    have hv := hB jn (by omega)
    have mb := mul_bd (a := (jn : Int) + 1) (b := (gA σ 5 jn).toInt) (A := 10) (B := 2000000) (by omega) (by omega) (by omega) (by omega)
    have mn := Int.mul_nonneg (show 0 ≤ (jn : Int) + 1 by omega) hv.1
    have hp : ((j + 1) * gA σ 5 jn).toInt = ((jn : Int) + 1) * (gA σ 5 jn).toInt := by rw [i_mul (by rw [e1, ← hj]; omega) (by rw [e1, ← hj]; omega), e1, ← hj]
    generalize (j + 1) * gA σ 5 jn = x at hp ⊢
    by_cases g : b < x
    · rw [if_pos g]
      rw [i_lt] at g
      obtain ⟨⟨y1, y4⟩, y2, y3⟩ := bestL hm h10 hB n x (j + 1) (jn + 1) (by omega) (by omega) (by omega) (by omega) (by omega)
      refine ⟨⟨by omega, y4⟩, fun i g1 g2 => ?_, ?_⟩
      · by_cases ei : i = jn
        · subst ei; omega
        · exact y2 i (by omega) g2
      · rcases y3 with y3 | y3
        · exact Or.inr ⟨jn, by omega, by omega⟩
        · exact Or.inr y3
    · rw [if_neg g]
      rw [i_lt] at g
      obtain ⟨⟨y1, y4⟩, y2, y3⟩ := bestL hm h10 hB n b (j + 1) (jn + 1) (by omega) (by omega) (by omega) (by omega) (by omega)
      refine ⟨⟨by omega, y4⟩, fun i g1 g2 => ?_, y3⟩
      by_cases ei : i = jn
      · subst ei; omega
      · exact y2 i (by omega) g2
theorem sumL {σ : St} {m : Nat} (hm : (m : Int) = (gI σ 4).toInt) (h10 : m ≤ 10) (hB : ∀ i, i < m → 0 ≤ (gA σ 5 i).toInt ∧ (gA σ 5 i).toInt ≤ 2000000) : ∀ (n : Nat) (b j : Int32) (jn : Nat), (jn : Int) = j.toInt → jn ≤ m → m < jn + n → b.toInt = sN (fun i => (gA σ 5 i).toInt) jn →
    (f5_sumOfRanked_L σ n b j).toInt = sN (fun i => (gA σ 5 i).toInt) m
  | 0, b, j, jn, hj, h1, hf, hb => by omega
  | n + 1, b, j, jn, hj, h1, hf, hb => by
    unfold f5_sumOfRanked_L
    by_cases e : gI σ 4 ≤ j
    · rw [if_pos e]
      rw [i_le] at e
      rw [hb, show jn = m by omega]
    rw [if_neg e]
    rw [i_le] at e
    have e1 : (j + 1).toInt = j.toInt + 1 := i_add1 (b := 10) (by omega) (by omega)
    rw [N_of hj]
    have hv := hB jn (by omega)
    have sb := sN_bd (f := fun i => (gA σ 5 i).toInt) (n := jn) (fun i hi => hB i (by omega))
    have a : sN (fun i => (gA σ 5 i).toInt) (jn + 1) = sN (fun i => (gA σ 5 i).toInt) jn + (gA σ 5 jn).toInt := rfl
    exact sumL hm h10 hB n (b + gA σ 5 jn) (j + 1) (jn + 1) (by omega) (by omega) (by omega) (by rw [i_add (by omega) (by omega), a, hb])
/-! the reference's way -/
theorem shI_ag {σ τ : St} (g : Ag mI mA mB σ τ) (r h : Int32) (pt : Int64) : ∀ (n : Nat) (fr nx : Int64) (k : Int32), f10_shaded_I τ r h pt n fr nx k = f10_shaded_I σ r h pt n fr nx k
  | 0, _, _, _ => rfl
  | n + 1, fr, nx, k => by
    have ea : f10_isAhead τ k r h = f10_isAhead σ k r h := by unfold f10_isAhead; rw [g.2.1 27 rfl]
    rw [f10_shaded_I, f10_shaded_I, g.1 20 rfl, ea, look_ag g, look_ag g]
    split
    · rfl
    · split
      · exact shI_ag g r h pt n _ _ _
      · exact shI_ag g r h pt n _ _ _
theorem shW_ag {σ τ : St} (g : Ag mI mA mB σ τ) (r h : Int32) (to : Int64) : ∀ (n : Nat) (su pt : Int64), f10_shaded_W τ r h to n su pt = f10_shaded_W σ r h to n su pt
  | 0, _, _ => rfl
  | n + 1, su, pt => by
    rw [f10_shaded_W, f10_shaded_W, shI_ag g]
    split
    · rfl
    · split
      · exact shW_ag g r h to n _ _
      · exact shW_ag g r h to n _ _
theorem dkL_ag {σ τ : St} (g : Ag mI mA mB σ τ) (r h : Int32) (fr th : Int64) : ∀ (n : Nat) (b q : Int32), f10_darkOf_L τ r h fr th n b q = f10_darkOf_L σ r h fr th n b q
  | 0, _, _ => rfl
  | n + 1, b, q => by
    have es : ∀ x y : Int64, f10_shaded τ r h x y = f10_shaded σ r h x y := fun x y => by unfold f10_shaded; exact shW_ag g r h _ _ _ _
    rw [f10_darkOf_L, f10_darkOf_L, es]
    split
    · rfl
    · split
      · exact dkL_ag g r h fr th n _ _
      · exact dkL_ag g r h fr th n _ _
theorem clean_ag {σ τ : St} (g : Ag mI mA mB σ τ) (r h : Int32) : f10_clean τ r h = f10_clean σ r h := by
  have ed : f10_darkOf τ r h = f10_darkOf σ r h := by unfold f10_darkOf; rw [look_ag g, breadth_ag g]; exact dkL_ag g r h _ _ _ _ _
  unfold f10_clean; rw [breadth_ag g, ed]
theorem dusted_ag {σ τ : St} (g : Ag mI mA mB σ τ) (r h : Int32) : f10_dusted τ r h = f10_dusted σ r h := by
  unfold f10_dusted; rw [clean_ag g, g.2.1 24 rfl]
theorem current_ag {σ τ : St} (g : Ag mI mA mB σ τ) (r h : Int32) : f10_currentOf τ r h = f10_currentOf σ r h := by
  unfold f10_currentOf; rw [clean_ag g, dusted_ag g]
theorem gvP {s a : Int32} {c : Nat} : ∀ (n : Nat) (σ : St) (r : Int32) (rn : Nat), (c : Int) = (gI σ 20).toInt → c ≤ 10 → (rn : Int) = r.toInt → rn ≤ c → c < rn + n →
    Ag pT pT b12 σ (f10_givesOf_P s a n σ r) ∧ (∀ i, rn ≤ i → i < c → gB (f10_givesOf_P s a n σ r) 12 i = if gA σ 26 i = s then f10_currentOf σ (nI i) a else -1) ∧ (∀ i, i < rn → gB (f10_givesOf_P s a n σ r) 12 i = gB σ 12 i)
  | 0, σ, r, rn, hc, h10, hj, h1, hf => by omega
  | n + 1, σ, r, rn, hc, h10, hj, h1, hf => by
    unfold f10_givesOf_P
    by_cases e : gI σ 20 ≤ r
    · rw [if_pos e]
      rw [i_le] at e
      exact ⟨Ag.rf _, fun i g1 g2 => by omega, fun i _ => rfl⟩
    rw [if_neg e]
    rw [i_le] at e
    have e1 : (r + 1).toInt = r.toInt + 1 := i_add1 (b := 10) (by omega) (by omega)
    have hnI := nI_N (r := r) (by omega) (by omega)
    rw [N_of hj] at hnI ⊢
    have key : ∀ v : Int64, v = (if gA σ 26 rn = s then f10_currentOf σ (nI rn) a else -1) → Ag pT pT b12 σ (f10_givesOf_P s a n (uB σ 12 rn v) (r + 1)) ∧ (∀ i, rn ≤ i → i < c → gB (f10_givesOf_P s a n (uB σ 12 rn v) (r + 1)) 12 i = if gA σ 26 i = s then f10_currentOf σ (nI i) a else -1) ∧ (∀ i, i < rn → gB (f10_givesOf_P s a n (uB σ 12 rn v) (r + 1)) 12 i = gB σ 12 i) := by
      intro v hv
      have m : Ag mI mA mB σ (uB σ 12 rn v) := (Ag.rf σ).uB rfl
      obtain ⟨y1, y2, y3⟩ := gvP (s := s) (a := a) n (uB σ 12 rn v) (r + 1) (rn + 1) hc h10 (by omega) (by omega) (by omega)
      refine ⟨((Ag.rf σ).uB rfl).tr y1, fun i g1 g2 => ?_, fun i g1 => ?_⟩
      · by_cases ei : i = rn
        · subst ei
          rw [y3 i (by omega), gBs, hv]
        · rw [y2 i (by omega) g2, current_ag m]; rfl
      · rw [y3 i (by omega)]; exact gBn σ 12 v (by omega)
    by_cases c2 : gA σ 26 rn = s
    · rw [if_pos c2]
      exact key _ (by rw [if_pos c2, hnI])
    · rw [if_neg c2]
      exact key _ (by rw [if_neg c2])
def iN (σ : St) (r i : Nat) : Int := if (gB σ 12 r).toInt < 0 then 0 else if (gB σ 12 i).toInt < (gB σ 12 r).toInt then 0 else 1
theorem iN_01 (σ : St) (r i : Nat) : 0 ≤ iN σ r i ∧ iN σ r i ≤ 1 := by
  unfold iN
  split
  · omega
  · split <;> omega
theorem gvI {σ : St} {r : Int32} {c rn : Nat} (hr : Int32.toNatClampNeg r = rn) (hc : (c : Int) = (gI σ 20).toInt) (h10 : c ≤ 10) : ∀ (n : Nat) (my k : Int32) (kn : Nat), (kn : Int) = k.toInt → kn ≤ c → c < kn + n → my.toInt = sN (iN σ rn) kn → (f10_givesOf_I σ r n my k).toInt = sN (iN σ rn) c
  | 0, my, k, kn, hj, h1, hf, hb => by omega
  | n + 1, my, k, kn, hj, h1, hf, hb => by
    unfold f10_givesOf_I
    by_cases e : gI σ 20 ≤ k
    · rw [if_pos e]
      rw [i_le] at e
      rw [hb, show kn = c by omega]
    rw [if_neg e]
    rw [i_le] at e
    have e1 : (k + 1).toInt = k.toInt + 1 := i_add1 (b := 10) (by omega) (by omega)
    rw [N_of hj, hr]
    have sb := sN_b1 (f := iN σ rn) (n := kn) (fun i _ => iN_01 σ rn i)
    have a := sN_s (iN σ rn) kn
    have m0 : my + 0 = my := Int32.add_zero my
    by_cases c1 : gB σ 12 rn < 0
    · rw [if_pos c1, m0]
      rw [l_lt, jl_0] at c1
      refine gvI hr hc h10 n my (k + 1) (kn + 1) (by omega) (by omega) (by omega) ?_
      have : iN σ rn kn = 0 := by unfold iN; rw [if_pos c1]
      omega
    rw [if_neg c1]
    rw [l_lt, jl_0] at c1
    by_cases c2 : gB σ 12 kn < gB σ 12 rn
    · rw [if_pos c2, m0]
      rw [l_lt] at c2
      refine gvI hr hc h10 n my (k + 1) (kn + 1) (by omega) (by omega) (by omega) ?_
      have : iN σ rn kn = 0 := by unfold iN; rw [if_neg c1, if_pos c2]
      omega
    · rw [if_neg c2]
      rw [l_lt] at c2
      refine gvI hr hc h10 n (my + 1) (k + 1) (kn + 1) (by omega) (by omega) (by omega) ?_
      have : iN σ rn kn = 1 := by unfold iN; rw [if_neg c1, if_neg c2]
      rw [i_add1 (b := 100) (by omega) (by omega)]
      omega
theorem gvL {σ : St} {c : Nat} (hc : (c : Int) = (gI σ 20).toInt) (h10 : c ≤ 10) (hV : ∀ i, i < c → -1 ≤ (gB σ 12 i).toInt ∧ (gB σ 12 i).toInt ≤ 2000000) : ∀ (n : Nat) (b : Int64) (r : Int32) (rn : Nat), (rn : Int) = r.toInt → rn ≤ c → c < rn + n → 0 ≤ b.toInt → b.toInt ≤ 20000000 →
    (f10_givesOf_L n σ b r).2 = σ ∧ (b.toInt ≤ (f10_givesOf_L n σ b r).1.toInt ∧ (f10_givesOf_L n σ b r).1.toInt ≤ 20000000) ∧ (∀ i, rn ≤ i → i < c → sN (iN σ i) c * (gB σ 12 i).toInt ≤ (f10_givesOf_L n σ b r).1.toInt) ∧ ((f10_givesOf_L n σ b r).1.toInt = b.toInt ∨ ∃ i, i < c ∧ (f10_givesOf_L n σ b r).1.toInt = sN (iN σ i) c * (gB σ 12 i).toInt)
  | 0, b, r, rn, hj, h1, hf, b0, b1 => by omega
  | n + 1, b, r, rn, hj, h1, hf, b0, b1 => by
    unfold f10_givesOf_L
    by_cases e : gI σ 20 ≤ r
    · rw [if_pos e]
      rw [i_le] at e
      exact ⟨rfl, ⟨Int.le_refl _, b1⟩, fun i g1 g2 => by omega, Or.inl rfl⟩
    rw [if_neg e]
    rw [i_le] at e
    have e1 : (r + 1).toInt = r.toInt + 1 := i_add1 (b := 10) (by omega) (by omega)
    have hI := gvI (σ := σ) (r := r) (N_of hj) hc h10 11 0 0 0 (by rw [lit_0]; rfl) (by omega) (by omega) (by rw [lit_0]; rfl)
    rw [N_of hj]
    have hv := hV rn (by omega)
    have sb := sN_b1 (f := iN σ rn) (n := c) (fun i _ => iN_01 σ rn i)
    have mb := mul_bd (a := sN (iN σ rn) c) (b := (gB σ 12 rn).toInt) (A := 10) (B := 2000000) (by omega) (by omega) (by omega) (by omega)
    have hp : (Int32.toInt64 (f10_givesOf_I σ r 11 0 0) * gB σ 12 rn).toInt = sN (iN σ rn) c * (gB σ 12 rn).toInt := by rw [j_mul (by rw [j_of, hI]; omega) (by rw [j_of, hI]; omega), j_of, hI]
    generalize Int32.toInt64 (f10_givesOf_I σ r 11 0 0) * gB σ 12 rn = x at hp ⊢
    by_cases g : x ≤ b
    · rw [if_pos g]
      rw [l_le] at g
      obtain ⟨y0, ⟨y1, y4⟩, y2, y3⟩ := gvL hc h10 hV n b (r + 1) (rn + 1) (by omega) (by omega) (by omega) (by omega) (by omega)
      refine ⟨y0, ⟨by omega, y4⟩, fun i g1 g2 => ?_, y3⟩
      by_cases ei : i = rn
      · subst ei; omega
      · exact y2 i (by omega) g2
    · rw [if_neg g]
      rw [l_le] at g
      obtain ⟨y0, ⟨y1, y4⟩, y2, y3⟩ := gvL hc h10 hV n x (r + 1) (rn + 1) (by omega) (by omega) (by omega) (by omega) (by omega)
      refine ⟨y0, ⟨by omega, y4⟩, fun i g1 g2 => ?_, ?_⟩
      · by_cases ei : i = rn
        · subst ei; omega
        · exact y2 i (by omega) g2
      · rcases y3 with y3 | y3
        · exact Or.inr ⟨rn, by omega, by omega⟩
        · exact Or.inr y3
theorem gives_eq {ρ τ : St} {a : Int32} {c : Nat} (s : Int32) (hcρ : (c : Int) = (gI ρ 2).toInt) (hcτ : (c : Int) = (gI τ 20).toInt) (h10 : c ≤ 10) (hW : ∀ i, i < c → gA ρ 1 i = Int64.toInt32 (f10_currentOf τ (nI i) a)) (hR : ∀ i, i < c → 0 ≤ (f10_currentOf τ (nI i) a).toInt ∧ (f10_currentOf τ (nI i) a).toInt ≤ 2000000) (hS : ∀ i, i < c → gA ρ 16 i = gA τ 26 i) :
    ((f5_best (f5_rank ρ s)).toInt = (f10_givesOf τ s a).1.toInt ∧ 0 ≤ (f5_best (f5_rank ρ s)).toInt ∧ (f5_best (f5_rank ρ s)).toInt ≤ 20000000) ∧ (f5_sumOfRanked (f5_rank ρ s)).toInt = sN (fun i => if gA τ 26 i = s then (f10_currentOf τ (nI i) a).toInt else 0) c ∧ Ag i4 a5 pT ρ (f5_rank ρ s) ∧ Ag pT pT b12 τ (f10_givesOf τ s a).2 := by
  obtain ⟨m, ⟨k1, k2, k3, k4⟩, ag1⟩ := rank_spec (s := s) hcρ h10
  generalize f5_rank ρ s = κ at *
  have hcur : ∀ i, i < c → (gA κ 1 i).toInt = (f10_currentOf τ (nI i) a).toInt := fun i hi => by
    have := hR i hi
    rw [ag1.2.1 1 rfl, hW i hi, cur32 (by omega)]
  have hstr : ∀ i, i < c → gA κ 16 i = gA τ 26 i := fun i hi => by rw [ag1.2.1 16 rfl, hS i hi]
  have k5 : ∀ φ : Int → Int, sN (fun i => φ (gA κ 5 i).toInt) m = sN (fun i => if gA τ 26 i = s then φ (f10_currentOf τ (nI i) a).toInt else 0) c := fun φ => by
    rw [k4 φ]
    refine sN_cg (fun i hi => ?_)
    show (if gA κ 16 i = s then φ (gA κ 1 i).toInt else 0) = if gA τ 26 i = s then φ (f10_currentOf τ (nI i) a).toInt else 0
    rw [hstr i hi, hcur i hi]
  have hB : ∀ i, i < m → 0 ≤ (gA κ 5 i).toInt ∧ (gA κ 5 i).toInt ≤ 2000000 := by
    intro i hi
    refine Classical.byContradiction (fun w => ?_)
    have e := k5 (fun x => if 0 ≤ x ∧ x ≤ 2000000 then 0 else 1)
    have p := sN_pos (f := fun i => if 0 ≤ (gA κ 5 i).toInt ∧ (gA κ 5 i).toInt ≤ 2000000 then (0 : Int) else 1) (q := i) (n := m) (fun k _ => by
      show 0 ≤ (if 0 ≤ (gA κ 5 k).toInt ∧ (gA κ 5 k).toInt ≤ 2000000 then (0 : Int) else 1)
      split <;> omega) hi
    rw [if_neg w, e] at p
    obtain ⟨x, x1, x2⟩ := sN_ex (f := fun i => if gA τ 26 i = s then (if 0 ≤ (f10_currentOf τ (nI i) a).toInt ∧ (f10_currentOf τ (nI i) a).toInt ≤ 2000000 then (0 : Int) else 1) else 0) (n := c) (by omega)
    rw [if_pos (hR x x1)] at x2
    split at x2 <;> omega
  unfold f10_givesOf f5_best f5_sumOfRanked
  obtain ⟨p1, p2, p3⟩ := gvP (s := s) (a := a) 11 τ 0 0 hcτ h10 (by rw [lit_0]; rfl) (by omega) (by omega)
  generalize f10_givesOf_P s a 11 τ 0 = υ at p1 p2 p3 ⊢
  have hV : ∀ i, i < c → (gB υ 12 i).toInt = if gA τ 26 i = s then (f10_currentOf τ (nI i) a).toInt else -1 := fun i hi => by
    rw [p2 i (by omega) hi]
    split
    · rfl
    · decide
  have hV2 : ∀ i, i < c → -1 ≤ (gB υ 12 i).toInt ∧ (gB υ 12 i).toInt ≤ 2000000 := fun i hi => by
    have := hR i hi
    rw [hV i hi]
    split <;> omega
  obtain ⟨y0, ⟨y1, y4⟩, y2, y3⟩ := gvL (σ := υ) (c := c) (by rw [p1.1 20 rfl]; exact hcτ) h10 hV2 11 0 0 0 (by rw [lit_0]; rfl) (by omega) (by omega) (by rw [jl_0]; omega) (by rw [jl_0]; omega)
  obtain ⟨⟨z1, z4⟩, z2, z3⟩ := bestL k1 (by omega) hB 11 0 0 0 (by rw [lit_0]; rfl) (by omega) (by omega) (by rw [lit_0]; omega) (by rw [lit_0]; omega)
  rw [jl_0] at y1 y3
  rw [lit_0] at z1 z3
  have eq := best_eq (rk := fun i => (gA κ 5 i).toInt) (cur := fun i => (f10_currentOf τ (nI i) a).toInt) (V := fun i => (gB υ 12 i).toInt) (str := fun i => gA τ 26 i) (s := s) (c := c) (m := m) k3 k5 (fun i hi => (hR i hi).1) hV z1 (fun i hi => z2 i (by omega) hi) z3 y1 (fun i hi => y2 i (by omega) hi) y3
  refine ⟨⟨eq, z1, z4⟩, ?_, ag1, by rw [y0]; exact p1⟩
  rw [sumL k1 (by omega) hB 11 0 0 0 (by rw [lit_0]; rfl) (by omega) (by omega) (by rw [lit_0]; rfl)]
  exact k5 (fun x => x)
