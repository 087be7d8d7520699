/-! the class's pieces of shade -/
def i13 (k : Nat) : Bool := k != 13
def b67 (k : Nat) : Bool := k != 6 && k != 7
theorem addL (a1 a2 : Int64) : ∀ (n : Nat) (σ : St) (j : Int32), 0 ≤ j.toInt → j.toInt ≤ 9 → j.toInt < n → ∃ p : Nat, (p : Int) ≤ j.toInt ∧
    gI (f2_addPiece_L a1 a2 n σ j) 13 = gI σ 13 + 1 ∧ Ag i13 pT b67 σ (f2_addPiece_L a1 a2 n σ j) ∧
    (∀ i : Nat, i < p → gB (f2_addPiece_L a1 a2 n σ j) 6 i = gB σ 6 i ∧ gB (f2_addPiece_L a1 a2 n σ j) 7 i = gB σ 7 i) ∧
    (gB (f2_addPiece_L a1 a2 n σ j) 6 p = a1 ∧ gB (f2_addPiece_L a1 a2 n σ j) 7 p = a2) ∧
    (∀ i : Nat, p ≤ i → (i : Int) < j.toInt → gB (f2_addPiece_L a1 a2 n σ j) 6 (i + 1) = gB σ 6 i ∧ gB (f2_addPiece_L a1 a2 n σ j) 7 (i + 1) = gB σ 7 i) ∧
    (∀ i : Nat, j.toInt < i → gB (f2_addPiece_L a1 a2 n σ j) 6 i = gB σ 6 i ∧ gB (f2_addPiece_L a1 a2 n σ j) 7 i = gB σ 7 i) ∧
    (∀ i : Nat, i + 1 = p → (gB σ 6 i).toInt ≤ a1.toInt) ∧
    (∀ i : Nat, p ≤ i → (i : Int) < j.toInt → a1.toInt < (gB σ 6 i).toInt)
  | 0, σ, j, h0, h1, h2 => by omega
  | n + 1, σ, j, h0, h1, h2 => by
    have hN : ((Int32.toNatClampNeg j : Nat) : Int) = j.toInt := by simp only [Int32.toNatClampNeg]; omega
    have putp : ∀ (q : Nat), q = Int32.toNatClampNeg j → (∀ i : Nat, i + 1 = q → (gB σ 6 i).toInt ≤ a1.toInt) → f2_addPiece_L a1 a2 (n + 1) σ j = uI (uB (uB σ 6 q a1) 7 q a2) 13 (gI σ 13 + 1) → ∃ p : Nat, (p : Int) ≤ j.toInt ∧
        gI (f2_addPiece_L a1 a2 (n + 1) σ j) 13 = gI σ 13 + 1 ∧ Ag i13 pT b67 σ (f2_addPiece_L a1 a2 (n + 1) σ j) ∧
        (∀ i : Nat, i < p → gB (f2_addPiece_L a1 a2 (n + 1) σ j) 6 i = gB σ 6 i ∧ gB (f2_addPiece_L a1 a2 (n + 1) σ j) 7 i = gB σ 7 i) ∧
        (gB (f2_addPiece_L a1 a2 (n + 1) σ j) 6 p = a1 ∧ gB (f2_addPiece_L a1 a2 (n + 1) σ j) 7 p = a2) ∧
        (∀ i : Nat, p ≤ i → (i : Int) < j.toInt → gB (f2_addPiece_L a1 a2 (n + 1) σ j) 6 (i + 1) = gB σ 6 i ∧ gB (f2_addPiece_L a1 a2 (n + 1) σ j) 7 (i + 1) = gB σ 7 i) ∧
        (∀ i : Nat, j.toInt < i → gB (f2_addPiece_L a1 a2 (n + 1) σ j) 6 i = gB σ 6 i ∧ gB (f2_addPiece_L a1 a2 (n + 1) σ j) 7 i = gB σ 7 i) ∧
        (∀ i : Nat, i + 1 = p → (gB σ 6 i).toInt ≤ a1.toInt) ∧
        (∀ i : Nat, p ≤ i → (i : Int) < j.toInt → a1.toInt < (gB σ 6 i).toInt) := by
      intro q hq hle e
      rw [← hq] at hN
      refine ⟨q, by omega, ?_⟩
      rw [e]
      refine ⟨rfl, (((Ag.rf σ).uB rfl).uB rfl).uI rfl, fun i hi => ⟨updL_ne (by omega), updL_ne (by omega)⟩, ⟨updL_at, updL_at⟩, fun i g1 g2 => by omega, fun i g1 => ⟨updL_ne (by omega), updL_ne (by omega)⟩, hle, fun i g1 g2 => by omega⟩
    by_cases c : j ≤ 0
    · have t := t_le c rfl lit_0
      refine putp _ rfl (fun i hi => by omega) ?_
      rw [f2_addPiece_L, if_pos c]; rfl
    · have t := t_nle c rfl lit_0
      have hj1 : (j - 1).toInt = j.toInt - 1 := by rw [i_sub (by rw [lit_1]; omega) (by rw [lit_1]; omega), lit_1]
      have hN1 : ((Int32.toNatClampNeg (j - 1) : Nat) : Int) = j.toInt - 1 := by simp only [Int32.toNatClampNeg]; omega
      by_cases c2 : gB σ 6 (Int32.toNatClampNeg (j - 1)) ≤ a1
      · refine putp _ rfl (fun i hi => ?_) ?_
        · rw [l_le] at c2
          rw [show i = Int32.toNatClampNeg (j - 1) by omega]; exact c2
        · rw [f2_addPiece_L, if_neg c, if_pos c2]; rfl
      · rw [f2_addPiece_L, if_neg c, if_neg c2]
        have hjm : (j + (-1 : Int32)).toInt = j.toInt - 1 := by rw [i_add (by rw [lit_m1]; omega) (by rw [lit_m1]; omega), lit_m1]; omega
        generalize hq : Int32.toNatClampNeg j = q at hN
        generalize hq1 : Int32.toNatClampNeg (j - 1) = q1 at hN1 c2
        have e7 : gB (uB σ 6 q (gB σ 6 q1)) 7 q1 = gB σ 7 q1 := rfl
        rw [e7]
        obtain ⟨p, p0, p1, p2, p3, p4, p5, p6, p7, p8⟩ := addL a1 a2 n (uB (uB σ 6 q (gB σ 6 q1)) 7 q (gB σ 7 q1)) (j + (-1 : Int32)) (by omega) (by omega) (by omega)
        have o6 : ∀ i, i ≠ q → gB (uB (uB σ 6 q (gB σ 6 q1)) 7 q (gB σ 7 q1)) 6 i = gB σ 6 i := fun i hi => updL_ne hi
        have o7 : ∀ i, i ≠ q → gB (uB (uB σ 6 q (gB σ 6 q1)) 7 q (gB σ 7 q1)) 7 i = gB σ 7 i := fun i hi => updL_ne hi
        have n6 : gB (uB (uB σ 6 q (gB σ 6 q1)) 7 q (gB σ 7 q1)) 6 q = gB σ 6 q1 := updL_at
        have n7 : gB (uB (uB σ 6 q (gB σ 6 q1)) 7 q (gB σ 7 q1)) 7 q = gB σ 7 q1 := updL_at
        refine ⟨p, by omega, p1, (((Ag.rf σ).uB rfl).uB rfl).tr p2, fun i hi => ?_, p4, fun i g1 g2 => ?_, fun i g1 => ?_, fun i hi => ?_, fun i g1 g2 => ?_⟩
        · rw [(p3 i hi).1, (p3 i hi).2]; exact ⟨o6 i (by omega), o7 i (by omega)⟩
        · by_cases e : i = q1
          · subst e
            have w := p6 (i + 1) (by omega)
            rw [w.1, w.2, show i + 1 = q by omega]; exact ⟨n6, n7⟩
          · have w := p5 i g1 (by omega)
            rw [w.1, w.2]; exact ⟨o6 i (by omega), o7 i (by omega)⟩
        · have w := p6 i (by omega)
          rw [w.1, w.2]; exact ⟨o6 i (by omega), o7 i (by omega)⟩
        · have w := p7 i hi
          rw [o6 i (by omega)] at w; exact w
        · by_cases e : i = q1
          · subst e; rw [l_le] at c2; omega
          · have w := p8 i g1 (by omega)
            rw [o6 i (by omega)] at w; exact w
def PcS (σ : St) : Prop := ∀ i : Nat, (i : Int) + 1 < (gI σ 13).toInt → (gB σ 6 i).toInt ≤ (gB σ 6 (i + 1)).toInt
def Pc (σ : St) (u v : Int64) : Prop := ∃ j : Nat, (j : Int) < (gI σ 13).toInt ∧ gB σ 6 j = u ∧ gB σ 7 j = v
theorem add_spec {σ : St} {a1 a2 : Int64} (h0 : 0 ≤ (gI σ 13).toInt) (h1 : (gI σ 13).toInt < 10) (hS : PcS σ) :
    PcS (f2_addPiece σ a1 a2) ∧ (∀ u v, Pc (f2_addPiece σ a1 a2) u v ↔ (Pc σ u v ∨ (¬ a2 ≤ a1 ∧ u = a1 ∧ v = a2))) ∧ (0 ≤ (gI (f2_addPiece σ a1 a2) 13).toInt ∧ (gI (f2_addPiece σ a1 a2) 13).toInt ≤ (gI σ 13).toInt + 1) ∧ Ag i13 pT b67 σ (f2_addPiece σ a1 a2) := by
  unfold f2_addPiece
  by_cases c : a2 ≤ a1
  · rw [if_pos c]
    exact ⟨hS, fun u v => ⟨Or.inl, fun q => q.resolve_right (fun w => w.1 c)⟩, ⟨h0, by omega⟩, Ag.rf _⟩
  rw [if_neg c, if_pos (by rw [i_lt, lit_10]; exact h1)]
  obtain ⟨p, p0, p1, p2, p3, p4, p5, p6, p7, p8⟩ := addL a1 a2 11 σ (gI σ 13) h0 (by omega) (by omega)
  generalize f2_addPiece_L a1 a2 11 σ (gI σ 13) = ρ at *
  have e13 : (gI ρ 13).toInt = (gI σ 13).toInt + 1 := by rw [p1]; exact i_add1 (b := 10) h1 (by omega)
  refine ⟨fun i hi => ?_, fun u v => ⟨?_, ?_⟩, ⟨by omega, by omega⟩, p2⟩
  · rw [e13] at hi
    by_cases g1 : i + 1 < p
    · rw [(p3 i (by omega)).1, (p3 (i + 1) g1).1]; exact hS i (by omega)
    · by_cases g2 : i + 1 = p
      · rw [(p3 i (by omega)).1, g2, p4.1]; exact p7 i g2
      · by_cases g3 : i = p
        · subst g3
          rw [p4.1, (p5 i (by omega) (by omega)).1]
          have := p8 i (by omega) (by omega); omega
        · obtain ⟨i', rfl⟩ : ∃ i', i = i' + 1 := ⟨i - 1, by omega⟩
          rw [(p5 i' (by omega) (by omega)).1, (p5 (i' + 1) (by omega) (by omega)).1]; exact hS i' (by omega)
  · rintro ⟨j, j1, j2, j3⟩
    rw [e13] at j1
    by_cases g1 : j < p
    · rw [(p3 j g1).1] at j2; rw [(p3 j g1).2] at j3; exact Or.inl ⟨j, by omega, j2, j3⟩
    · by_cases g2 : j = p
      · subst g2; rw [p4.1] at j2; rw [p4.2] at j3; exact Or.inr ⟨c, j2.symm, j3.symm⟩
      · obtain ⟨i', rfl⟩ : ∃ i', j = i' + 1 := ⟨j - 1, by omega⟩
        rw [(p5 i' (by omega) (by omega)).1] at j2; rw [(p5 i' (by omega) (by omega)).2] at j3
        exact Or.inl ⟨i', by omega, j2, j3⟩
  · rintro (⟨j, j1, j2, j3⟩ | ⟨-, rfl, rfl⟩)
    · by_cases g1 : j < p
      · exact ⟨j, by omega, (p3 j g1).1.trans j2, (p3 j g1).2.trans j3⟩
      · exact ⟨j + 1, by omega, (p5 j (by omega) j1).1.trans j2, (p5 j (by omega) j1).2.trans j3⟩
    · exact ⟨p, by omega, p4.1, p4.2⟩
theorem st_ag {σ τ : St} (g : Ag i13 pT b67 σ τ) (a b : Int32) : f2_shadeStart τ a b = f2_shadeStart σ a b ∧ f2_shadeEnd τ a b = f2_shadeEnd σ a b := by
  unfold f2_shadeStart f2_shadeEnd; rw [g.2.2 4 rfl, g.2.2 5 rfl]; exact ⟨rfl, rfl⟩
theorem castL (a1 a3 : Int32) (h9 : a3.toInt ≤ 9) : ∀ (n : Nat) (σ : St) (j : Int32), 0 ≤ j.toInt → j.toInt ≤ 10 → a3.toInt < j.toInt + n → 0 ≤ (gI σ 13).toInt → (gI σ 13).toInt ≤ j.toInt → PcS σ →
    PcS (f2_cast_L a1 a3 n σ j) ∧ (∀ u v, Pc (f2_cast_L a1 a3 n σ j) u v ↔ (Pc σ u v ∨ ∃ k : Nat, j.toInt ≤ k ∧ (k : Int) ≤ a3.toInt ∧ ¬ f2_shadeEnd σ a1 (nI k) ≤ f2_shadeStart σ a1 (nI k) ∧ u = f2_shadeStart σ a1 (nI k) ∧ v = f2_shadeEnd σ a1 (nI k))) ∧ Ag i13 pT b67 σ (f2_cast_L a1 a3 n σ j) ∧ (0 ≤ (gI (f2_cast_L a1 a3 n σ j) 13).toInt ∧ (gI (f2_cast_L a1 a3 n σ j) 13).toInt ≤ 10)
  | 0, σ, j, h0, h1, hf, m0, m1, hS => ⟨hS, fun u v => ⟨Or.inl, fun q => q.elim id (fun ⟨k, g1, g2, _⟩ => by omega)⟩, Ag.rf _, ⟨m0, by show (gI σ 13).toInt ≤ 10; omega⟩⟩
  | n + 1, σ, j, h0, h1, hf, m0, m1, hS => by
    unfold f2_cast_L
    by_cases c : a3 < j
    · rw [if_pos c]
      have t := t_lt c rfl rfl
      exact ⟨hS, fun u v => ⟨Or.inl, fun q => q.elim id (fun ⟨k, g1, g2, _⟩ => by omega)⟩, Ag.rf _, ⟨m0, by omega⟩⟩
    rw [if_neg c]
    have t := t_nlt c rfl rfl
    have e1 : (j + 1).toInt = j.toInt + 1 := i_add1 (b := 10) (by omega) (by omega)
    obtain ⟨q1, q2, q3, q4⟩ := add_spec (σ := σ) (a1 := f2_shadeStart σ a1 j) (a2 := f2_shadeEnd σ a1 j) m0 (by omega) hS
    obtain ⟨y1, y2, y3, y4⟩ := castL a1 a3 h9 n (f2_addPiece σ (f2_shadeStart σ a1 j) (f2_shadeEnd σ a1 j)) (j + 1) (by omega) (by omega) (by omega) q3.1 (by omega) q1
    refine ⟨y1, fun u v => ?_, q4.tr y3, y4⟩
    have hN : ((Int32.toNatClampNeg j : Nat) : Int) = j.toInt := by simp only [Int32.toNatClampNeg]; omega
    have hnI := nI_N h0 (by omega)
    rw [y2 u v, q2 u v]
    constructor
    · rintro ((w | w) | ⟨k, k1, k2, k3, k4, k5⟩)
      · exact Or.inl w
      · exact Or.inr ⟨Int32.toNatClampNeg j, by omega, by omega, by rw [hnI]; exact w⟩
      · rw [(st_ag q4 a1 (nI k)).1, (st_ag q4 a1 (nI k)).2] at k3
        rw [(st_ag q4 a1 (nI k)).1] at k4
        rw [(st_ag q4 a1 (nI k)).2] at k5
        exact Or.inr ⟨k, by omega, k2, k3, k4, k5⟩
    · rintro (w | ⟨k, k1, k2, k3, k4, k5⟩)
      · exact Or.inl (Or.inl w)
      · by_cases e : k = Int32.toNatClampNeg j
        · rw [e, hnI] at k3 k4 k5
          exact Or.inl (Or.inr ⟨k3, k4, k5⟩)
        · refine Or.inr ⟨k, by omega, k2, ?_⟩
          rw [(st_ag q4 a1 (nI k)).1, (st_ag q4 a1 (nI k)).2]
          exact ⟨k3, k4, k5⟩
theorem PcS.le {σ : St} (h : PcS σ) {i : Nat} : ∀ {j : Nat}, i ≤ j → (j : Int) < (gI σ 13).toInt → (gB σ 6 i).toInt ≤ (gB σ 6 j).toInt
  | 0, h1, h2 => by rw [show i = 0 by omega]; omega
  | j + 1, h1, h2 => by
    by_cases e : i = j + 1
    · rw [e]; omega
    · have := h.le (i := i) (j := j) (by omega) (by omega)
      have := h j (by omega)
      omega
/-- the sweep over sorted pieces -/
theorem shL {σ : St} (hS : PcS σ) (hc : (gI σ 13).toInt ≤ 10) {A : Int} {m : Nat} (hm : m ≤ 4000000000000) (hA : -1000000000000 ≤ A ∧ A ≤ 1000000000000)
    (hP : ∀ i : Nat, (i : Int) < (gI σ 13).toInt → A ≤ (gB σ 6 i).toInt ∧ (gB σ 6 i).toInt < (gB σ 7 i).toInt ∧ (gB σ 7 i).toInt ≤ A + m) : ∀ (n : Nat) (s r : Int64) (j : Int32), 0 ≤ j.toInt → (gI σ 13).toInt < j.toInt + n → j.toInt ≤ (gI σ 13).toInt →
    s.toInt = cnt (fun t => ∃ i : Nat, (i : Int) < j.toInt ∧ (gB σ 6 i).toInt ≤ t ∧ t < (gB σ 7 i).toInt) A m → (∀ i : Nat, (i : Int) < j.toInt → (gB σ 7 i).toInt ≤ r.toInt) → ((∃ i : Nat, (i : Int) < j.toInt ∧ (gB σ 7 i).toInt = r.toInt) ∨ (j.toInt = 0 ∧ r = gB σ 6 0)) → (A ≤ r.toInt ∧ r.toInt ≤ A + m) →
    (f2_shaded_L σ n s r j).toInt = cnt (fun t => ∃ i : Nat, (i : Int) < (gI σ 13).toInt ∧ (gB σ 6 i).toInt ≤ t ∧ t < (gB σ 7 i).toInt) A m
  | 0, s, r, j, h0, hf, hj, _, _, _, _ => by omega
  | n + 1, s, r, j, h0, hf, hj, H1, H2, H3, H4 => by
    unfold f2_shaded_L
    by_cases c : gI σ 13 ≤ j
    · rw [if_pos c]
      have t := t_le c rfl rfl
      rw [H1, show j.toInt = (gI σ 13).toInt by omega]
    rw [if_neg c]
    have t := t_nle c rfl rfl
    have e1 : (j + 1).toInt = j.toInt + 1 := i_add1 (b := 10) (by omega) (by omega)
    have hN : ((Int32.toNatClampNeg j : Nat) : Int) = j.toInt := by simp only [Int32.toNatClampNeg]; omega
    generalize Int32.toNatClampNeg j = q at hN
    obtain ⟨P1, P2, P3⟩ := hP q (by omega)
    have srt : ∀ i : Nat, (i : Int) < j.toInt → (gB σ 6 i).toInt ≤ (gB σ 6 q).toInt := fun i hi => hS.le (by omega) (by omega)
    have s0 := cnt_nn (fun t => ∃ i : Nat, (i : Int) < j.toInt ∧ (gB σ 6 i).toInt ≤ t ∧ t < (gB σ 7 i).toInt) A m
    have sm : cnt (fun t => ∃ i : Nat, (i : Int) < j.toInt ∧ (gB σ 6 i).toInt ≤ t ∧ t < (gB σ 7 i).toInt) A m ≤ m := by
      have : ∀ (P : Int → Prop) (n : Nat), cnt P A n ≤ n := fun P n => by
        induction n with
        | zero => exact Int.le_refl _
        | succ n ih =>
          by_cases g : P (A + n)
          · rw [cnt_t g]; omega
          · rw [cnt_f g]; omega
      exact this _ m
    obtain ⟨bg, hbg, hbi⟩ : ∃ bg : Int64, (if gB σ 6 q < r then r else gB σ 6 q) = bg ∧ bg.toInt = max (gB σ 6 q).toInt r.toInt := by
      refine ⟨_, rfl, ?_⟩
      by_cases g : gB σ 6 q < r
      · rw [if_pos g]; rw [l_lt] at g; omega
      · rw [if_neg g]; rw [l_lt] at g; omega
    rw [hbg]
    have low : ∀ t, (gB σ 6 q).toInt ≤ t → t < r.toInt → ∃ i : Nat, (i : Int) < j.toInt ∧ (gB σ 6 i).toInt ≤ t ∧ t < (gB σ 7 i).toInt := by
      intro t g1 g2
      rcases H3 with ⟨i, i1, i2⟩ | ⟨i1, i2⟩
      · exact ⟨i, i1, by have := srt i i1; omega, by omega⟩
      · have e : q = 0 := by omega
        subst e; rw [i2] at g2; omega
    by_cases c2 : gB σ 7 q ≤ bg
    · rw [if_pos c2]
      rw [l_le] at c2
      have hr : (gB σ 7 q).toInt ≤ r.toInt := by omega
      refine shL hS hc hm hA hP n s r (j + 1) (by omega) (by omega) (by omega) ?_ (fun i hi => ?_) ?_ H4
      · rw [H1]
        refine cnt_cg (fun t _ _ => ⟨?_, ?_⟩)
        · rintro ⟨i, i1, i2⟩; exact ⟨i, by omega, i2⟩
        · rintro ⟨i, i1, i2, i3⟩
          by_cases e : i = q
          · subst e; exact low t i2 (by omega)
          · exact ⟨i, by omega, i2, i3⟩
      · by_cases e : i = q
        · subst e; exact hr
        · exact H2 i (by omega)
      · rcases H3 with ⟨i, i1, i2⟩ | ⟨i1, i2⟩
        · exact Or.inl ⟨i, by omega, i2⟩
        · have e : q = 0 := by omega
          subst e; rw [i2] at hr; omega
    · rw [if_neg c2]
      rw [l_le] at c2
      have es : (gB σ 7 q - bg).toInt = (gB σ 7 q).toInt - bg.toInt := j_sub (by omega) (by omega)
      have ea : (s + (gB σ 7 q - bg)).toInt = s.toInt + ((gB σ 7 q).toInt - bg.toInt) := by rw [j_add (by rw [es]; omega) (by rw [es]; omega), es]
      refine shL hS hc hm hA hP n (s + (gB σ 7 q - bg)) (gB σ 7 q) (j + 1) (by omega) (by omega) (by omega) ?_ (fun i hi => ?_) (Or.inl ⟨q, by omega, rfl⟩) ⟨by omega, P3⟩
      · rw [ea, H1, ← cnt_iv (a := A) (u := bg.toInt) (v := (gB σ 7 q).toInt) (n := m) (by omega) (by omega) P3]
        symm
        refine cnt_or (fun t _ _ => ⟨⟨?_, ?_⟩, ?_⟩)
        · rintro ⟨i, i1, i2, i3⟩
          by_cases e : i = q
          · subst e
            by_cases g : t < r.toInt
            · exact Or.inl (low t i2 g)
            · exact Or.inr ⟨by omega, i3⟩
          · exact Or.inl ⟨i, by omega, i2, i3⟩
        · rintro (⟨i, i1, i2⟩ | ⟨g1, g2⟩)
          · exact ⟨i, by omega, i2⟩
          · exact ⟨q, by omega, by omega, g2⟩
        · rintro ⟨⟨i, i1, i2, i3⟩, g1, g2⟩
          have := H2 i i1; omega
      · by_cases e : i = q
        · subst e; omega
        · have := H2 i (by omega); omega
theorem shd_spec {σ : St} (hS : PcS σ) (h0 : 0 ≤ (gI σ 13).toInt) (hc : (gI σ 13).toInt ≤ 10) {A : Int} {m : Nat} (hm : m ≤ 4000000000000) (hA : -1000000000000 ≤ A ∧ A ≤ 1000000000000)
    (hP : ∀ i : Nat, (i : Int) < (gI σ 13).toInt → A ≤ (gB σ 6 i).toInt ∧ (gB σ 6 i).toInt < (gB σ 7 i).toInt ∧ (gB σ 7 i).toInt ≤ A + m) :
    (f2_shaded σ).toInt = cnt (fun t => ∃ u v, Pc σ u v ∧ u.toInt ≤ t ∧ t < v.toInt) A m := by
  have e : cnt (fun t => ∃ u v, Pc σ u v ∧ u.toInt ≤ t ∧ t < v.toInt) A m = cnt (fun t => ∃ i : Nat, (i : Int) < (gI σ 13).toInt ∧ (gB σ 6 i).toInt ≤ t ∧ t < (gB σ 7 i).toInt) A m := by
    refine cnt_cg (fun t _ _ => ⟨?_, ?_⟩)
    · rintro ⟨u, v, ⟨j, j1, rfl, rfl⟩, g⟩; exact ⟨j, j1, g⟩
    · rintro ⟨j, j1, g⟩; exact ⟨_, _, ⟨j, j1, rfl, rfl⟩, g⟩
  rw [e]
  unfold f2_shaded
  by_cases c : gI σ 13 = 0
  · rw [if_pos c, jl_0, cnt_none]
    rintro t _ _ ⟨i, i1, -⟩
    rw [c, lit_0] at i1; omega
  · rw [if_neg c]
    have hp := hP 0 (by rw [i_eq, lit_0] at c; omega)
    have eN : Int32.toNatClampNeg (0 : Int32) = 0 := rfl
    rw [eN]
    refine shL hS hc hm hA hP 11 0 (gB σ 6 0) 0 (by rw [lit_0]; omega) (by rw [lit_0]; omega) (by rw [lit_0]; omega) ?_ (fun i hi => by rw [lit_0] at hi; omega) (Or.inr ⟨lit_0, rfl⟩) ⟨hp.1, by omega⟩
    rw [jl_0, cnt_none]
    rintro t _ _ ⟨i, i1, -⟩
    rw [lit_0] at i1; omega
