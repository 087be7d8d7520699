/-! looks -/
def E0 (σ : St) (i : Nat) (s x y : Int32) : Int64 := (((20000 : Int64) * (Int32.toInt64 (gA σ 11 i))) * (Int32.toInt64 y) - ((20000 : Int64) * (Int32.toInt64 (gA σ 12 i))) * (Int32.toInt64 x)) - (Int32.toInt64 (gA σ 13 i)) * ((f10_cosine s) * (Int32.toInt64 y) - (f10_sine s) * (Int32.toInt64 x))
def E1 (σ : St) (i : Nat) (s x y : Int32) : Int64 := (((20000 : Int64) * (Int32.toInt64 (gA σ 11 i))) * (Int32.toInt64 y) - ((20000 : Int64) * (Int32.toInt64 (gA σ 12 i))) * (Int32.toInt64 x)) + (Int32.toInt64 (gA σ 13 i)) * ((f10_cosine s) * (Int32.toInt64 y) - (f10_sine s) * (Int32.toInt64 x))
theorem put_eq {σ : St} {a : Int32} {i : Nat} {s x y : Int32} (h : -12 ≤ s.toInt ∧ s.toInt ≤ 12) : f2_put σ a i s x y = uB (uB σ 4 (Int32.toNatClampNeg a) (E0 σ i s x y)) 5 (Int32.toNatClampNeg a) (E1 σ i s x y) := by
  unfold f2_put E0 E1
  rw [cos_eq h, sin_eq h]
def putL (x y : Int32) (st : Nat → Int32) : Nat → St → Int32 → St
  | 0, σ, _ => σ
  | n + 1, σ, j => if gI σ 2 ≤ j then σ else putL x y st n (f2_put σ j (Int32.toNatClampNeg j) (st (Int32.toNatClampNeg j)) x y) (j + 1)
theorem turned_eq (x y : Int32) (st : Nat → Int32) : ∀ (n : Nat) (σ : St) (j : Int32), gA σ 15 = st → f0_lookAsTurned_L x y n σ j = putL x y st n σ j
  | 0, _, _, _ => rfl
  | n + 1, σ, j, h => by
    unfold f0_lookAsTurned_L putL
    rw [h]
    split
    · rfl
    · exact turned_eq x y st n _ _ h
theorem free_eq (a x y : Int32) (st kd : Nat → Int32) : ∀ (n : Nat) (σ : St) (j : Int32), gA σ 15 = st → gA σ 10 = kd → f0_isFreeAt_P a x y n σ j = putL x y (fun i => if kd i = 1 then st i else a) n σ j
  | 0, _, _, _, _ => rfl
  | n + 1, σ, j, h, g => by
    unfold f0_isFreeAt_P putL
    rw [h, g]
    by_cases c : gI σ 2 ≤ j
    · rw [if_pos c, if_pos c]
    rw [if_neg c, if_neg c]
    by_cases c2 : kd (Int32.toNatClampNeg j) = 1
    · rw [if_pos c2, if_pos c2]; exact free_eq a x y st kd n _ _ h g
    · rw [if_neg c2, if_neg c2]; exact free_eq a x y st kd n _ _ h g
theorem updL_at {f : Nat → Int64} {k : Nat} {v : Int64} : vp_updL f k v k = v := by unfold vp_updL; exact if_pos rfl
theorem updL_ne {f : Nat → Int64} {k j : Nat} {v : Int64} (h : j ≠ k) : vp_updL f k v j = f j := by unfold vp_updL; exact if_neg h
def b45 (k : Nat) : Bool := k != 4 && k != 5
theorem putL_spec (x y : Int32) (st : Nat → Int32) (hst : ∀ i, i < 10 → -12 ≤ (st i).toInt ∧ (st i).toInt ≤ 12) : ∀ (n : Nat) (σ : St) (j : Int32), (gI σ 2).toInt ≤ 10 → 0 ≤ j.toInt → (gI σ 2).toInt ≤ j.toInt + n →
    Ag pT pT b45 σ (putL x y st n σ j) ∧ (∀ i : Nat, j.toInt ≤ i → (i : Int) < (gI σ 2).toInt → gB (putL x y st n σ j) 4 i = E0 σ i (st i) x y ∧ gB (putL x y st n σ j) 5 i = E1 σ i (st i) x y) ∧ (∀ i : Nat, (i : Int) < j.toInt → gB (putL x y st n σ j) 4 i = gB σ 4 i ∧ gB (putL x y st n σ j) 5 i = gB σ 5 i)
  | 0, σ, j, hc, hj, hf => ⟨Ag.rf _, fun i h1 h2 => by omega, fun i _ => ⟨rfl, rfl⟩⟩
  | n + 1, σ, j, hc, hj, hf => by
    unfold putL
    by_cases c : gI σ 2 ≤ j
    · rw [if_pos c]
      rw [i_le] at c
      exact ⟨Ag.rf _, fun i h1 h2 => by omega, fun i _ => ⟨rfl, rfl⟩⟩
    · rw [if_neg c]
      obtain ⟨x1, x2, x3⟩ := lp_ix hc hj c
      generalize hi : Int32.toNatClampNeg j = i0 at x1
      rw [put_eq (hst i0 (by omega)), hi]
      obtain ⟨y1, y2, y3⟩ := putL_spec x y st hst n (uB (uB σ 4 i0 (E0 σ i0 (st i0) x y)) 5 i0 (E1 σ i0 (st i0) x y)) (j + 1) hc (by omega) (by show (gI σ 2).toInt ≤ _; omega)
      refine ⟨(((Ag.rf σ).uB rfl).uB rfl).tr y1, fun i h1 h2 => ?_, fun i h1 => ?_⟩
      · by_cases e : i = i0
        · subst e
          obtain ⟨z1, z2⟩ := y3 i (by omega)
          rw [z1, z2]
          exact ⟨updL_at, updL_at⟩
        · exact y2 i (by omega) h2
      · obtain ⟨z1, z2⟩ := y3 i (by omega)
        rw [z1, z2]
        exact ⟨updL_ne (by omega), updL_ne (by omega)⟩
theorem ringA (P H W C S x y : Int64) : ((20000 * P + ((-1) * W) * C) * y - (20000 * H + ((-1) * W) * S) * x) = ((20000 * P) * y - (20000 * H) * x) - W * (C * y - S * x) := by grind
theorem ringB (P H W C S x y : Int64) : ((20000 * P + ((1) * W) * C) * y - (20000 * H + ((1) * W) * S) * x) = ((20000 * P) * y - (20000 * H) * x) + W * (C * y - S * x) := by grind
theorem look_E {σ τ : St} {r h s x y : Int32} (h1 : gA τ 21 (Int32.toNatClampNeg r) = gA σ 11 (Int32.toNatClampNeg r)) (h2 : gA τ 22 (Int32.toNatClampNeg r) = gA σ 12 (Int32.toNatClampNeg r)) (h3 : gA τ 23 (Int32.toNatClampNeg r) = gA σ 13 (Int32.toNatClampNeg r)) (hx : gA τ 27 (Int32.toNatClampNeg h) = x) (hy : gA τ 28 (Int32.toNatClampNeg h) = y) (hs : f10_stepAt τ r = s) : f10_look τ r 0 h = E0 σ (Int32.toNatClampNeg r) s x y ∧ f10_look τ r 1 h = E1 σ (Int32.toNatClampNeg r) s x y := by
  unfold f10_look E0 E1
  rw [h1, h2, h3, hx, hy, hs, show f10_look_sd 0 = -1 from rfl, show f10_look_sd 1 = 1 from rfl]
  exact ⟨ringA _ _ _ _ _ _ _, ringB _ _ _ _ _ _ _⟩
/-- the class's looks are the reference's -/
def LkG (ρ τ : St) (h : Int32) : Prop := ∀ r : Int32, 0 ≤ r.toInt → r.toInt < (gI ρ 2).toInt → gB ρ 4 (Int32.toNatClampNeg r) = f10_look τ r 0 h ∧ gB ρ 5 (Int32.toNatClampNeg r) = f10_look τ r 1 h
/-- what the reference reads of looks -/
def mI (k : Nat) : Bool := k == 20 || k == 29
def mA (k : Nat) : Bool := k == 20 || k == 21 || k == 22 || k == 23 || k == 24 || k == 25 || k == 26 || k == 27 || k == 28
def mB (_ : Nat) : Bool := false
theorem mA_s : ∀ k, mA k = true → sA k = true := fun k hk => by
  unfold mA at hk; unfold sA
  simp only [Bool.or_eq_true, beq_iff_eq] at hk
  simp only [Bool.and_eq_true, bne_iff_ne, ne_eq]
  omega
theorem mI_s : ∀ k, mI k = true → sI k = true := fun k hk => by
  unfold mI at hk; unfold sI
  simp only [Bool.or_eq_true, beq_iff_eq] at hk
  simp only [Bool.and_eq_true, bne_iff_ne, ne_eq]
  omega
theorem Ag.toM {σ τ : St} {pb : Nat → Bool} (h : Ag sI sA pb σ τ) : Ag mI mA mB σ τ := h.mono mI_s mA_s (fun _ h => absurd h Bool.false_ne_true)
theorem look_ag {σ τ : St} (g : Ag mI mA mB σ τ) (r q h : Int32) : f10_look τ r q h = f10_look σ r q h := by
  unfold f10_look f10_stepAt
  rw [g.2.1 20 rfl, g.2.1 21 rfl, g.2.1 22 rfl, g.2.1 23 rfl, g.2.1 25 rfl, g.2.1 27 rfl, g.2.1 28 rfl, g.1 29 rfl]
theorem breadth_ag {σ τ : St} (g : Ag mI mA mB σ τ) (r h : Int32) : f10_breadthOf τ r h = f10_breadthOf σ r h := by
  unfold f10_breadthOf; rw [look_ag g, look_ag g]
theorem step99 {σ : St} (h : gI σ 29 = 99) (r : Int32) : f10_stepAt σ r = gA σ 25 (Int32.toNatClampNeg r) := by unfold f10_stepAt; rw [if_pos h]
def sI3 (k : Nat) : Bool := k != 3
theorem lookFrom_spec {k : Nat} {σ : St} (h : Rel k σ) {a : Int32} (ha : vp_in a 24) : Ag sI3 pT b45 σ (f9_lookFrom σ a) ∧ gI (f9_lookFrom σ a) 3 = gA σ 2 (Int32.toNatClampNeg a) ∧ LkG (f9_lookFrom σ a) (f9_lookFrom σ a) a := by
  unfold f9_lookFrom f0_lookAsTurned
  generalize hx : gA σ 2 (Int32.toNatClampNeg a) = x
  generalize hy : gA σ 3 (Int32.toNatClampNeg a) = y
  rw [turned_eq x y (gA σ 15) 11 (uI σ 3 x) 0 rfl]
  have hc : (gI (uI σ 3 x) 2).toInt ≤ 10 := h.1.cnt.2
  obtain ⟨y1, y2, y3⟩ := putL_spec x y (gA σ 15) (fun i hi => h.1.stp i hi) 11 (uI σ 3 x) 0 hc (by rw [lit_0]; omega) (by rw [lit_0]; omega)
  generalize putL x y (gA σ 15) 11 (uI σ 3 x) 0 = ρ at y1 y2 y3
  refine ⟨((Ag.rf σ).uI rfl).tr (y1.mono (fun _ _ => rfl) (fun _ _ => rfl) (fun _ h => h)), y1.1 3 rfl, fun r r1 r2 => ?_⟩
  have e2 : gI ρ 2 = gI σ 2 := y1.1 2 rfl
  have e29 : gI ρ 29 = 99 := (y1.1 29 rfl).trans h.2.2.2.2.2.2.2
  rw [e2] at r2
  have hN : ((Int32.toNatClampNeg r : Nat) : Int) = r.toInt := by simp only [Int32.toNatClampNeg]; omega
  obtain ⟨z1, z2⟩ := y2 (Int32.toNatClampNeg r) (by rw [lit_0]; omega) (by show ((Int32.toNatClampNeg r : Nat) : Int) < (gI σ 2).toInt; omega)
  obtain ⟨⟨q1, q2, q3, q4, q5, q6, q7⟩, -⟩ := h.2.1.2 (Int32.toNatClampNeg r) (by omega)
  obtain ⟨⟨s1, s2⟩, -⟩ := h.2.2.1 _ (vlt ha)
  have le := look_E (σ := uI σ 3 x) (τ := ρ) (r := r) (h := a) (s := gA σ 15 (Int32.toNatClampNeg r)) (x := x) (y := y) (by rw [y1.2.1 21 rfl]; exact q2.symm) (by rw [y1.2.1 22 rfl]; exact q3.symm) (by rw [y1.2.1 23 rfl]; exact q4.symm) (by rw [y1.2.1 27 rfl]; exact s1.symm.trans hx) (by rw [y1.2.1 28 rfl]; exact s2.symm.trans hy) (by rw [step99 e29, y1.2.1 25 rfl]; exact q6.symm)
  rw [z1, z2, le.1, le.2]
  exact ⟨rfl, rfl⟩
theorem sB_45 : ∀ k, sB k = true → b45 k = true := fun k hk => by
  unfold sB at hk; unfold b45
  simp only [Bool.and_eq_true] at hk ⊢
  exact ⟨hk.1.1.1.1.2, hk.1.1.1.2⟩
theorem sI_3 : ∀ k, sI k = true → sI3 k = true := fun k hk => by
  unfold sI at hk; unfold sI3
  simp only [Bool.and_eq_true] at hk
  exact hk.1.1.1.1
theorem lookFrom_sc {k : Nat} {σ : St} (h : Rel k σ) {a : Int32} (ha : vp_in a 24) : Ag sI sA sB σ (f9_lookFrom σ a) := (lookFrom_spec h ha).1.mono sI_3 (fun _ _ => rfl) sB_45
theorem lookFrom_Rel {k : Nat} {σ : St} (h : Rel k σ) {a : Int32} (ha : vp_in a 24) : Rel k (f9_lookFrom σ a) := h.ag (lookFrom_sc h ha) (sX9_lookFrom h.1)
/-! what sight asks -/
theorem unseen_ag {σ τ : St} (h20 : gI τ 20 = gI σ 20) (h28 : gA τ 28 = gA σ 28) (a b : Int32) : f10_unseen τ a b = f10_unseen σ a b := by
  unfold f10_unseen f10_isRow f10_isNight; rw [h20, h28]
theorem sight_cases {k : Nat} {σ : St} (h : Rel k σ) (a b : Int32) : (∃ c, five c ∧ f9_findingOfSight σ a b = c ∧ f10_unseen σ a b = c) ∨ (f9_findingOfSight σ a b = 0 ∧ f10_unseen σ a b = 0 ∧ ¬ f9_isRow σ a = 0 ∧ vp_in b 24 ∧ f4_isNight σ b = 0) := by
  have er := row_eq h a
  unfold f9_findingOfSight f10_unseen
  by_cases c1 : f9_isRow σ a = 0
  · exact Or.inl ⟨_, f1, if_pos c1, if_pos (er.trans c1)⟩
  have n1 : ¬ f10_isRow σ a = 0 := fun q => c1 (er.symm.trans q)
  rw [if_neg c1, if_neg n1]
  by_cases c2 : f9_isHour b = 0
  · exact Or.inl ⟨_, f1, if_pos c2, if_pos (show f10_isHour b = 0 from c2)⟩
  have n2 : ¬ f10_isHour b = 0 := c2
  rw [if_neg c2, if_neg n2]
  have hi := isHour_in c2
  have en := night_eq h hi
  by_cases c3 : f4_isNight σ b = 0
  · exact Or.inr ⟨if_pos c3, if_pos (en.trans c3), c1, hi, c3⟩
  · exact Or.inl ⟨_, f2, if_neg c3, if_neg (fun q => c3 (en.symm.trans q))⟩
theorem five_ne {c : Int32} (h : five c) : ¬ c = 0 := by rcases h with rfl | rfl | rfl | rfl | rfl <;> decide
theorem five_neg {c : Int32} (h : five c) : ¬ (0 : Int32) ≤ c := by rcases h with rfl | rfl | rfl | rfl | rfl <;> decide
theorem row_rg {σ : St} {a : Int32} (hs : Safe σ) (h : ¬ f9_isRow σ a = 0) : 0 ≤ a.toInt ∧ a.toInt < (gI σ 2).toInt := by
  obtain ⟨h1, h2⟩ := row_lt hs h
  have := toN h1
  exact ⟨by omega, by omega⟩
theorem pu_breadth (k : Nat) (σ : St) (a1 a2 : Int32) (h : Rel k σ) : Safe (f9_breadth σ a1 a2).2 ∧ (f9_breadth σ a1 a2).1 = (f10_breadth (f9_breadth σ a1 a2).2 a1 a2).1 ∧ Rel (k + 1) (f10_breadth (f9_breadth σ a1 a2).2 a1 a2).2 := by
  rcases sight_cases h a1 a2 with ⟨c, hc, e1, e2⟩ | ⟨e1, e2, e3, e4, e5⟩
  · refine finL h hc (fun τ => f10_breadth τ a1 a2) (by unfold f9_breadth; rw [e1, if_neg (five_ne hc)]) ?_
    show f10_breadth _ _ _ = _
    unfold f10_breadth
    rw [unseen_ag (σ := σ) (τ := (f9_answer σ c).2) rfl rfl, e2, if_neg (five_neg hc)]
  · have hr := lookFrom_Rel h.up e4
    have sp := lookFrom_spec h e4
    refine okk (fun τ => f10_breadth τ a1 a2) (τ := f9_lookFrom σ a2) (ρ := f9_lookFrom σ a2) (v := f2_stretch (f9_lookFrom σ a2) a1) (w := f10_breadthOf (f9_lookFrom σ a2) a1 a2) ?_ ?_ hr.1 ?_ hr
    · unfold f9_breadth; rw [if_pos e1]
    · show f10_breadth _ _ _ = _
      unfold f10_breadth
      rw [unseen_ag (σ := σ) (sp.1.1 20 rfl) (sp.1.2.1 28 rfl), e2]
      exact if_pos (by decide)
    · obtain ⟨g1, g2⟩ := row_rg h.1 e3
      obtain ⟨z1, z2⟩ := sp.2.2 a1 g1 (by rw [sp.1.1 2 rfl]; exact g2)
      unfold f2_stretch f10_breadthOf
      rw [z1, z2]
