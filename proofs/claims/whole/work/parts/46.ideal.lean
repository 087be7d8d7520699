theorem step_nI {s : Int32} (h : -12 ≤ s.toInt ∧ s.toInt ≤ 12) : ∃ j : Nat, j < 25 ∧ s = nI j - 12 := by
  have e : (s + 12).toInt = s.toInt + 12 := by rw [i_add (by rw [lit_12]; omega) (by rw [lit_12]; omega), lit_12]
  obtain ⟨j, hj, e2⟩ := vp_in_of (vin (i := s + 12) (by omega) (by omega : (s + 12).toInt < (25 : Nat))) (by decide)
  refine ⟨j, hj, ?_⟩
  rw [← e2, Int32.add_sub_cancel]
theorem cos_eq {s : Int32} (h : -12 ≤ s.toInt ∧ s.toInt ≤ 12) : Int32.toInt64 (cosF (Int32.toNatClampNeg (if (0 : Int32) ≤ s then s else (0 : Int32) - s))) = f10_cosine s := by
  obtain ⟨j, hj, rfl⟩ := step_nI h
  have : ∀ j : Nat, j < 25 → Int32.toInt64 (cosF (Int32.toNatClampNeg (if (0 : Int32) ≤ nI j - 12 then nI j - 12 else (0 : Int32) - (nI j - 12)))) = f10_cosine (nI j - 12) := by decide +kernel
  exact this j hj
theorem sin_eq {s : Int32} (h : -12 ≤ s.toInt ∧ s.toInt ≤ 12) : f2_put_T s = f10_sine s := by
  obtain ⟨j, hj, rfl⟩ := step_nI h
  have : ∀ j : Nat, j < 25 → f2_put_T (nI j - 12) = f10_sine (nI j - 12) := by decide +kernel
  exact this j hj
theorem cs_f {j : Nat} (hj : j < 12) : Int32.toInt64 (cosF (Int32.toNatClampNeg (nI (j + 1)))) = f10_cosine (nI (j + 1)) ∧ Int32.toInt64 (sinF (Int32.toNatClampNeg (nI (j + 1)))) = f10_sine (nI (j + 1)) ∧ f10_cosine (-(nI (j + 1))) = f10_cosine (nI (j + 1)) ∧ f10_sine (-(nI (j + 1))) = -(f10_sine (nI (j + 1))) := by
  have : ∀ j : Nat, j < 12 → Int32.toInt64 (cosF (Int32.toNatClampNeg (nI (j + 1)))) = f10_cosine (nI (j + 1)) ∧ Int32.toInt64 (sinF (Int32.toNatClampNeg (nI (j + 1)))) = f10_sine (nI (j + 1)) ∧ f10_cosine (-(nI (j + 1))) = f10_cosine (nI (j + 1)) ∧ f10_sine (-(nI (j + 1))) = -(f10_sine (nI (j + 1))) := by decide +kernel
  exact this j hj
/-- how a step takes the sun -/
def gS (x y : Int32) (k : Int32) : Int64 := f10_cosine k * Int32.toInt64 y - f10_sine k * Int32.toInt64 x
theorem gS_pos {x y f : Int32} (h : 1 ≤ f.toInt ∧ f.toInt ≤ 12) : Int32.toInt64 (cosF (Int32.toNatClampNeg f)) * Int32.toInt64 y - Int32.toInt64 (sinF (Int32.toNatClampNeg f)) * Int32.toInt64 x = gS x y f ∧ Int32.toInt64 (cosF (Int32.toNatClampNeg f)) * Int32.toInt64 y + Int32.toInt64 (sinF (Int32.toNatClampNeg f)) * Int32.toInt64 x = gS x y (-f) := by
  obtain ⟨j, hj, rfl⟩ := vp_in_of (vin (i := f) (by omega) (by omega : f.toInt < (13 : Nat))) (by decide)
  have h0 : j ≠ 0 := by rintro rfl; exact absurd h.1 (by decide +kernel)
  obtain ⟨i, rfl⟩ : ∃ i, j = i + 1 := ⟨j - 1, by omega⟩
  obtain ⟨e1, e2, e3, e4⟩ := cs_f (j := i) (by omega)
  unfold gS
  rw [e1, e2, e3, e4]
  refine ⟨rfl, ?_⟩
  generalize f10_cosine (nI (i + 1)) = c
  generalize f10_sine (nI (i + 1)) = s
  generalize Int32.toInt64 x = xx
  generalize Int32.toInt64 y = yy
  grind
def bst (x y : Int32) (lo hi : Int) (b : Int32) : Prop := (lo ≤ b.toInt ∧ b.toInt ≤ hi) ∧ ∀ k : Int32, lo ≤ k.toInt → k.toInt ≤ hi → (gS x y k).toInt < (gS x y b).toInt ∨ ((gS x y k).toInt = (gS x y b).toInt ∧ (b.toInt.natAbs < k.toInt.natAbs ∨ (b.toInt.natAbs = k.toInt.natAbs ∧ b.toInt ≤ k.toInt)))
theorem bst.uniq {x y b c : Int32} {lo hi : Int} (h : bst x y lo hi b) (g : bst x y lo hi c) : b = c := by
  have h1 := h.2 c g.1.1 g.1.2
  have g1 := g.2 b h.1.1 h.1.2
  rw [i_eq]; omega
theorem ideal9 (x y : Int32) : ∀ (n : Nat) (b : Int32) (f : Int32), 1 ≤ f.toInt → f.toInt ≤ 13 → 14 ≤ f.toInt + n → bst x y (-(f.toInt - 1)) (f.toInt - 1) b → bst x y (-12) 12 (f0_idealStep_L x y n b (gS x y b) f)
  | 0, b, f, h1, h2, h3, h => by omega
  | n + 1, b, f, h1, h2, h3, h => by
    unfold f0_idealStep_L
    by_cases c : (12 : Int32) < f
    · rw [if_pos c]
      have t := t_lt c lit_12 rfl
      have e : f.toInt = 13 := by omega
      rw [e] at h; exact h
    · rw [if_neg c]
      have t := t_nlt c lit_12 rfl
      obtain ⟨e1, e2⟩ := gS_pos (x := x) (y := y) (f := f) ⟨h1, t⟩
      rw [e1, e2]
      have hf1 : (f + 1).toInt = f.toInt + 1 := i_add1 (b := 13) (by omega) (by omega)
      have hn : (-f).toInt = -f.toInt := i_neg (by omega)
      have key : ∀ d : Int32, (d = b ∨ d = f ∨ d = -f) → (gS x y b).toInt ≤ (gS x y d).toInt → (gS x y f).toInt ≤ (gS x y d).toInt → (gS x y (-f)).toInt ≤ (gS x y d).toInt → (d = f → (gS x y b).toInt < (gS x y d).toInt ∧ (gS x y (-f)).toInt < (gS x y d).toInt) → (d = -f → (gS x y b).toInt < (gS x y d).toInt) → bst x y (-((f + 1).toInt - 1)) ((f + 1).toInt - 1) d := by
        intro d hd k1 k2 k3 k4 k5
        rw [hf1]
        obtain ⟨⟨b1, b2⟩, b3⟩ := h
        have hdr : d.toInt = b.toInt ∨ d.toInt = f.toInt ∨ d.toInt = -f.toInt := by
          rcases hd with rfl | rfl | rfl
          · exact Or.inl rfl
          · exact Or.inr (Or.inl rfl)
          · exact Or.inr (Or.inr hn)
        refine ⟨⟨by omega, by omega⟩, fun k g1 g2 => ?_⟩
        by_cases e3 : k.toInt = f.toInt
        · have e4 : k = f := i_eq.mpr e3
          subst e4
          rcases hd with rfl | rfl | rfl
          · omega
          · omega
          · rw [hn] at *; omega
        by_cases e5 : k.toInt = -f.toInt
        · have e6 : k = -f := i_eq.mpr (by rw [hn]; exact e5)
          subst e6
          rcases hd with rfl | rfl | rfl
          · omega
          · have := k4 rfl; omega
          · omega
        · have q := b3 k (by omega) (by omega)
          rcases hd with rfl | rfl | rfl
          · exact q
          · have := k4 rfl; omega
          · have := k5 rfl; omega
      have rcc : ∀ d : Int32, bst x y (-((f + 1).toInt - 1)) ((f + 1).toInt - 1) d → bst x y (-12) 12 (f0_idealStep_L x y n d (gS x y d) (f + 1)) := fun d hd => ideal9 x y n d (f + 1) (by omega) (by omega) (by omega) hd
      by_cases c1 : gS x y (-f) ≤ gS x y b
      · rw [if_pos c1]
        rw [l_le] at c1
        by_cases c2 : gS x y f ≤ gS x y b
        · rw [if_pos c2]
          rw [l_le] at c2
          refine rcc b (key b (Or.inl rfl) (by omega) c2 c1 (fun e => ?_) (fun e => ?_))
          · have := h.1; rw [e] at this; omega
          · have := h.1; rw [e, hn] at this; omega
        · rw [if_neg c2]
          rw [l_le] at c2
          refine rcc f (key f (Or.inr (Or.inl rfl)) (by omega) (by omega) (by omega) (fun _ => ⟨by omega, by omega⟩) (fun e => ?_))
          omega
      · rw [if_neg c1]
        rw [l_le] at c1
        by_cases c2 : gS x y f ≤ gS x y (-f)
        · rw [if_pos c2]
          rw [l_le] at c2
          refine rcc (-f) (key (-f) (Or.inr (Or.inr rfl)) (by omega) c2 (by omega) (fun e => ?_) (fun _ => by omega))
          have := congrArg Int32.toInt e; rw [hn] at this; omega
        · rw [if_neg c2]
          rw [l_le] at c2
          exact rcc f (key f (Or.inr (Or.inl rfl)) (by omega) (by omega) (by omega) (fun _ => ⟨by omega, by omega⟩) (fun e => by have := congrArg Int32.toInt e; rw [hn] at this; omega))
theorem ideal9_bst (x y : Int32) : bst x y (-12) 12 (f0_idealStep x y) := by
  have e : (Int32.toInt64 (cosF (Int32.toNatClampNeg (0 : Int32)))) * (Int32.toInt64 y) = gS x y 0 := by
    unfold gS
    rw [show Int32.toInt64 (cosF (Int32.toNatClampNeg (0 : Int32))) = f10_cosine 0 by decide +kernel, show f10_sine 0 = 0 by decide +kernel]
    grind
  unfold f0_idealStep
  rw [e]
  refine ideal9 x y 13 0 1 (by rw [lit_1]; omega) (by rw [lit_1]; omega) (by rw [lit_1]; omega) ?_
  rw [lit_1]
  refine ⟨by rw [lit_0]; omega, fun k h1 h2 => ?_⟩
  have : k = 0 := i_eq.mpr (by rw [lit_0]; omega)
  subst this
  exact Or.inr ⟨rfl, Or.inr ⟨rfl, by omega⟩⟩
theorem abs_a {k : Int32} (h : -12 ≤ k.toInt ∧ k.toInt ≤ 12) : (f10_idealOf_a k).toInt = (k.toInt.natAbs : Int) := by
  unfold f10_idealOf_a
  split
  · rename_i c; have := t_le c lit_0 rfl; omega
  · rename_i c; have := t_nle c lit_0 rfl; rw [i_neg (by omega)]; omega
theorem ideal10 (σ : St) (a : Int32) (x y : Int32) (hx : gA σ 27 (Int32.toNatClampNeg a) = x) (hy : gA σ 28 (Int32.toNatClampNeg a) = y) : ∀ (n : Nat) (b : Int32) (mo : Int64) (k : Int32), -12 ≤ k.toInt → k.toInt ≤ 13 → 14 ≤ k.toInt + n → (k = -12 ∨ (mo = gS x y b ∧ bst x y (-12) (k.toInt - 1) b)) → bst x y (-12) 12 (f10_idealOf_L σ a n b mo k)
  | 0, b, mo, k, h1, h2, h3, h => by omega
  | n + 1, b, mo, k, h1, h2, h3, h => by
    unfold f10_idealOf_L
    rw [hx, hy]
    by_cases c : (12 : Int32) < k
    · rw [if_pos c]
      have t := t_lt c lit_12 rfl
      have e : k.toInt = 13 := by omega
      rcases h with h | ⟨-, h⟩
      · rw [h, lit_m12] at e; omega
      · rw [e] at h; exact h
    · rw [if_neg c]
      have t := t_nlt c lit_12 rfl
      have hk1 : (k + 1).toInt = k.toInt + 1 := i_add1 (b := 13) (by omega) (by omega)
      have e : f10_cosine k * Int32.toInt64 y - f10_sine k * Int32.toInt64 x = gS x y k := rfl
      rw [e]
      have rcc : ∀ d : Int32, bst x y (-12) ((k + 1).toInt - 1) d → bst x y (-12) 12 (f10_idealOf_L σ a n d (gS x y d) (k + 1)) := fun d hd => ideal10 σ a x y hx hy n d (gS x y d) (k + 1) (by omega) (by omega) (by omega) (Or.inr ⟨rfl, hd⟩)
      by_cases c0 : k = -12
      · rw [if_pos c0]
        refine rcc k ?_
        rw [hk1]
        have e12 : k.toInt = -12 := by rw [c0, lit_m12]
        refine ⟨by omega, fun i g1 g2 => ?_⟩
        have : i = k := i_eq.mpr (by omega)
        subst this
        exact Or.inr ⟨rfl, Or.inr ⟨rfl, by omega⟩⟩
      · rw [if_neg c0]
        obtain ⟨hm, hb⟩ := h.resolve_left c0
        subst hm
        obtain ⟨⟨b1, b2⟩, b3⟩ := hb
        have key : ∀ d : Int32, (d = b ∨ d = k) → (∀ i : Int32, -12 ≤ i.toInt → i.toInt ≤ k.toInt → i ≠ k → ((gS x y i).toInt < (gS x y d).toInt ∨ ((gS x y i).toInt = (gS x y d).toInt ∧ (d.toInt.natAbs < i.toInt.natAbs ∨ (d.toInt.natAbs = i.toInt.natAbs ∧ d.toInt ≤ i.toInt))))) → ((gS x y k).toInt < (gS x y d).toInt ∨ ((gS x y k).toInt = (gS x y d).toInt ∧ (d.toInt.natAbs < k.toInt.natAbs ∨ (d.toInt.natAbs = k.toInt.natAbs ∧ d.toInt ≤ k.toInt)))) → bst x y (-12) ((k + 1).toInt - 1) d := by
          intro d hd q1 q2
          rw [hk1]
          have hdr : d.toInt = b.toInt ∨ d.toInt = k.toInt := by
            rcases hd with rfl | rfl
            · exact Or.inl rfl
            · exact Or.inr rfl
          refine ⟨by omega, fun i g1 g2 => ?_⟩
          by_cases e : i = k
          · subst e; exact q2
          · exact q1 i g1 (by omega) e
        have old : ∀ i : Int32, -12 ≤ i.toInt → i.toInt ≤ k.toInt → i ≠ k → ((gS x y i).toInt < (gS x y b).toInt ∨ ((gS x y i).toInt = (gS x y b).toInt ∧ (b.toInt.natAbs < i.toInt.natAbs ∨ (b.toInt.natAbs = i.toInt.natAbs ∧ b.toInt ≤ i.toInt)))) := fun i g1 g2 g3 => b3 i g1 (by rw [ne_eq, i_eq] at g3; omega)
        by_cases c1 : gS x y b < gS x y k
        · rw [if_pos c1]
          rw [l_lt] at c1
          refine rcc k (key k (Or.inr rfl) (fun i g1 g2 g3 => ?_) (Or.inr ⟨rfl, Or.inr ⟨rfl, by omega⟩⟩))
          have := old i g1 g2 g3
          omega
        · rw [if_neg c1]
          rw [l_lt] at c1
          by_cases c2 : gS x y k = gS x y b
          · rw [if_pos c2]
            have c2' := congrArg Int64.toInt c2
            have ea := abs_a (k := k) ⟨by omega, t⟩
            have eb : (f10_idealOf_b b).toInt = (b.toInt.natAbs : Int) := abs_a (k := b) ⟨by omega, by omega⟩
            by_cases c3 : f10_idealOf_b b ≤ f10_idealOf_a k
            · rw [if_pos c3]
              rw [i_le] at c3
              refine rcc b (key b (Or.inl rfl) old ?_)
              exact Or.inr ⟨c2', by omega⟩
            · rw [if_neg c3]
              rw [i_le] at c3
              refine rcc k (key k (Or.inr rfl) (fun i g1 g2 g3 => ?_) (Or.inr ⟨rfl, Or.inr ⟨rfl, by omega⟩⟩))
              have := old i g1 g2 g3
              omega
          · rw [if_neg c2]
            have c2' : (gS x y k).toInt ≠ (gS x y b).toInt := fun q => c2 (Int64.toInt_inj.mp q)
            exact rcc b (key b (Or.inl rfl) old (Or.inl (by omega)))
theorem ideal_eq {σ : St} {a x y : Int32} (hx : gA σ 27 (Int32.toNatClampNeg a) = x) (hy : gA σ 28 (Int32.toNatClampNeg a) = y) : f0_idealStep x y = f10_idealOf σ a := by
  refine (ideal9_bst x y).uniq ?_
  unfold f10_idealOf
  exact ideal10 σ a x y hx hy 26 0 0 (-12) (by rw [lit_m12]; omega) (by rw [lit_m12]; omega) (by rw [lit_m12]; omega) (Or.inl rfl)
theorem ideal_rg {x y : Int32} : -12 ≤ (f0_idealStep x y).toInt ∧ (f0_idealStep x y).toInt ≤ 12 := (ideal9_bst x y).1
theorem night_eq {k : Nat} {σ : St} (h : Rel k σ) {a : Int32} (ha : vp_in a 24) : f10_isNight σ a = f4_isNight σ a := by
  unfold f10_isNight f4_isNight
  rw [(h.2.2.1 _ (vlt ha)).1.2]
theorem pu_ideal (k : Nat) (σ : St) (a1 : Int32) (h : Rel k σ) : Safe (f9_ideal σ a1).2 ∧ (f9_ideal σ a1).1 = (f10_ideal (f9_ideal σ a1).2 a1).1 ∧ Rel (k + 1) (f10_ideal (f9_ideal σ a1).2 a1).2 := by
  by_cases c1 : f9_isHour a1 = 0
  · exact fin h f1 (fun τ => f10_ideal τ a1) (by unfold f9_ideal; exact if_pos c1) (by show f10_ideal _ _ = _; unfold f10_ideal; exact if_pos (show f10_isHour a1 = 0 from c1))
  have n1 : ¬ f10_isHour a1 = 0 := c1
  have hi := isHour_in c1
  have en := night_eq h hi
  by_cases c2 : f4_isNight σ a1 = 0
  · obtain ⟨⟨s1, s2⟩, s3⟩ := h.2.2.1 _ (vlt hi)
    exact okk (fun τ => f10_ideal τ a1) (τ := σ) (ρ := σ) (by unfold f9_ideal; rw [if_neg c1, if_pos c2]) (by show f10_ideal _ _ = _; unfold f10_ideal; rw [if_neg n1, if_pos (en.trans c2)]) h.1 (ideal_eq s1.symm s2.symm) h.up
  · exact fin h f2 (fun τ => f10_ideal τ a1) (by unfold f9_ideal; exact (if_neg c1).trans (if_neg c2)) (by show f10_ideal _ _ = _; unfold f10_ideal; exact (if_neg n1).trans (if_neg (fun q => c2 (en.symm.trans q))))
