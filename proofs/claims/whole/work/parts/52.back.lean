/-! the step at which none is shaded -/
theorem uI_back {σ : St} {k : Nat} {s v : Int32} (h : gI σ k = v) : uI (uI σ k s) k v = σ := by
  refine Prod.ext (funext (fun j => ?_)) rfl
  show (if j = k then v else (if j = k then s else σ.1 j)) = σ.1 j
  by_cases e : j = k
  · rw [if_pos e, e]; exact h.symm
  · rw [if_neg e, if_neg e]
theorem Ag.sy {pi pa pb : Nat → Bool} {σ τ : St} (h : Ag pi pa pb σ τ) : Ag pi pa pb τ σ := ⟨fun k hk => (h.1 k hk).symm, fun k hk => (h.2.1 k hk).symm, fun k hk => (h.2.2 k hk).symm⟩
def bdC (ρ : St) (i : Nat) : Prop := ¬ gA ρ 10 i = 1 ∧ ¬ f2_isLit ρ (nI i) = 0 ∧ ¬ f2_isShaded ρ (nI i) (f0_firstAhead ρ (nI i)) (f0_lastAhead ρ (nI i)) = 0
def bdM (τ : St) (a : Int32) (i : Nat) : Prop := ¬ gA τ 20 i = 1 ∧ ¬ f10_breadthOf τ (nI i) a ≤ 0 ∧ ¬ f10_shadeOf τ (nI i) a ≤ 0
theorem freeQ {ρ : St} (hc : (gI ρ 2).toInt ≤ 10) : ∀ (n : Nat) (j : Int32), 0 ≤ j.toInt → j.toInt ≤ (gI ρ 2).toInt → (gI ρ 2).toInt < j.toInt + n →
    (f0_isFreeAt_Q n ρ j).2 = ρ ∧ ((f0_isFreeAt_Q n ρ j).1 = 0 ↔ ∃ i : Nat, j.toInt ≤ i ∧ (i : Int) < (gI ρ 2).toInt ∧ bdC ρ i)
  | 0, j, h0, h1, hf => by omega
  | n + 1, j, h0, h1, hf => by
    unfold f0_isFreeAt_Q
    by_cases c : gI ρ 2 ≤ j
    · rw [if_pos c]
      have t := t_le c rfl rfl
      refine ⟨rfl, fun q => absurd q (show ¬ (1 : Int32) = 0 by decide), ?_⟩
      rintro ⟨i, i1, i2, -⟩
      omega
    rw [if_neg c]
    obtain ⟨x1, x2, x3⟩ := lp_ix hc h0 c
    have hnI := nI_N h0 (by omega)
    generalize Int32.toNatClampNeg j = i0 at x1 hnI
    obtain ⟨y1, y2⟩ := freeQ hc n (j + 1) (by omega) (by omega) (by omega)
    have sk : ¬ bdC ρ i0 → ((∃ i : Nat, (j + 1).toInt ≤ i ∧ (i : Int) < (gI ρ 2).toInt ∧ bdC ρ i) ↔ ∃ i : Nat, j.toInt ≤ i ∧ (i : Int) < (gI ρ 2).toInt ∧ bdC ρ i) := by
      intro nb
      constructor
      · rintro ⟨i, i1, i2, i3⟩; exact ⟨i, by omega, i2, i3⟩
      · rintro ⟨i, i1, i2, i3⟩
        refine ⟨i, ?_, i2, i3⟩
        have : i ≠ i0 := by rintro rfl; exact nb i3
        omega
    by_cases c1 : gA ρ 10 i0 = 1
    · rw [if_pos c1]
      exact ⟨y1, y2.trans (sk (fun w => w.1 c1))⟩
    rw [if_neg c1]
    by_cases c2 : f2_isLit ρ j = 0
    · rw [if_pos c2]
      exact ⟨y1, y2.trans (sk (fun w => w.2.1 (by rw [hnI]; exact c2)))⟩
    rw [if_neg c2]
    by_cases c3 : f2_isShaded ρ j (f0_firstAhead ρ j) (f0_lastAhead ρ j) = 0
    · rw [if_pos c3]
      exact ⟨y1, y2.trans (sk (fun w => w.2.2 (by rw [hnI]; exact c3)))⟩
    rw [if_neg c3]
    exact ⟨rfl, fun _ => ⟨i0, by omega, by omega, c1, by rw [hnI]; exact c2, by rw [hnI]; exact c3⟩, fun _ => rfl⟩
theorem clearL {τ : St} {a : Int32} (hc : (gI τ 20).toInt ≤ 10) : ∀ (n : Nat) (cl r : Int32), 0 ≤ r.toInt → r.toInt ≤ (gI τ 20).toInt → (gI τ 20).toInt < r.toInt + n →
    (f10_isClear_L a n τ cl r).2 = uI τ 29 99 ∧ ((f10_isClear_L a n τ cl r).1 = 0 ↔ (cl = 0 ∨ ∃ i : Nat, r.toInt ≤ i ∧ (i : Int) < (gI τ 20).toInt ∧ bdM τ a i))
  | 0, cl, r, h0, h1, hf => by omega
  | n + 1, cl, r, h0, h1, hf => by
    unfold f10_isClear_L
    by_cases c : gI τ 20 ≤ r
    · rw [if_pos c]
      have t := t_le c rfl rfl
      refine ⟨rfl, Or.inl, fun q => q.elim id ?_⟩
      rintro ⟨i, i1, i2, -⟩
      omega
    rw [if_neg c]
    have t := t_nle c rfl rfl
    have x3 : (r + 1).toInt = r.toInt + 1 := i_add1 (b := 10) (by omega) (by omega)
    have x1 : ((Int32.toNatClampNeg r : Nat) : Int) = r.toInt := by simp only [Int32.toNatClampNeg]; omega
    have hnI := nI_N h0 (by omega)
    generalize Int32.toNatClampNeg r = i0 at x1 hnI
    have sk : ¬ bdM τ a i0 → ((∃ i : Nat, (r + 1).toInt ≤ i ∧ (i : Int) < (gI τ 20).toInt ∧ bdM τ a i) ↔ ∃ i : Nat, r.toInt ≤ i ∧ (i : Int) < (gI τ 20).toInt ∧ bdM τ a i) := by
      intro nb
      constructor
      · rintro ⟨i, i1, i2, i3⟩; exact ⟨i, by omega, i2, i3⟩
      · rintro ⟨i, i1, i2, i3⟩
        refine ⟨i, ?_, i2, i3⟩
        have : i ≠ i0 := by rintro rfl; exact nb i3
        omega
    by_cases c1 : gA τ 20 i0 = 1
    · rw [if_pos c1]
      obtain ⟨y1, y2⟩ := clearL (a := a) hc n cl (r + 1) (by omega) (by omega) (by omega)
      exact ⟨y1, y2.trans (or_congr Iff.rfl (sk (fun w => w.1 c1)))⟩
    rw [if_neg c1]
    by_cases c2 : f10_breadthOf τ r a ≤ 0
    · rw [if_pos c2]
      obtain ⟨y1, y2⟩ := clearL (a := a) hc n cl (r + 1) (by omega) (by omega) (by omega)
      exact ⟨y1, y2.trans (or_congr Iff.rfl (sk (fun w => w.2.1 (by rw [hnI]; exact c2))))⟩
    rw [if_neg c2]
    by_cases c3 : f10_shadeOf τ r a ≤ 0
    · rw [if_pos c3]
      obtain ⟨y1, y2⟩ := clearL (a := a) hc n cl (r + 1) (by omega) (by omega) (by omega)
      exact ⟨y1, y2.trans (or_congr Iff.rfl (sk (fun w => w.2.2 (by rw [hnI]; exact c3))))⟩
    rw [if_neg c3]
    obtain ⟨y1, y2⟩ := clearL (a := a) hc n 0 (r + 1) (by omega) (by omega) (by omega)
    exact ⟨y1, fun _ => Or.inr ⟨i0, by omega, by omega, c1, by rw [hnI]; exact c2, by rw [hnI]; exact c3⟩, fun _ => y2.mpr (Or.inl rfl)⟩
/-- what looks ask of both: the class's numbers in one state, the reference's in another -/
def Rg2 (σ τ : St) : Prop := Safe σ ∧ Safe τ ∧ gI σ 2 = gI τ 20 ∧ (∀ i : Nat, (i : Int) < (gI σ 2).toInt → (gA σ 10 i = gA τ 20 i ∧ gA σ 11 i = gA τ 21 i ∧ gA σ 12 i = gA τ 22 i ∧ gA σ 13 i = gA τ 23 i ∧ gA σ 14 i = gA τ 24 i ∧ gA σ 15 i = gA τ 25 i ∧ gA σ 16 i = gA τ 26 i) ∧ RowOk σ i) ∧ (∀ i : Nat, i < 24 → (gA σ 2 i = gA τ 27 i ∧ gA σ 3 i = gA τ 28 i) ∧ (-1000 ≤ (gA σ 2 i).toInt ∧ (gA σ 2 i).toInt ≤ 1000) ∧ (0 ≤ (gA σ 3 i).toInt ∧ (gA σ 3 i).toInt ≤ 1000)) ∧ gI τ 29 = 99
theorem Rel.rg2 {k : Nat} {σ τ : St} (h : Rel k σ) (g : Ag mI mA mB σ τ) (ht : Safe τ) : Rg2 σ τ := by
  obtain ⟨h1, ⟨h2, h3⟩, h4, -, -, -, -, h5⟩ := h
  refine ⟨h1, ht, ?_, fun i hi => ?_, fun i hi => ?_, ?_⟩
  · rw [g.1 20 rfl]; exact h2
  · rw [g.2.1 20 rfl, g.2.1 21 rfl, g.2.1 22 rfl, g.2.1 23 rfl, g.2.1 24 rfl, g.2.1 25 rfl, g.2.1 26 rfl]; exact h3 i hi
  · rw [g.2.1 27 rfl, g.2.1 28 rfl]; exact h4 i hi
  · rw [g.1 29 rfl]; exact h5
theorem Rg2.ag {σ σ1 τ : St} (h : Rg2 σ τ) (g : Ag sI3 pT b45 σ σ1) (hs : Safe σ1) : Rg2 σ1 τ := by
  obtain ⟨h1, h2, h3, h4, h5, h6⟩ := h
  unfold Rg2 RowOk
  rw [g.1 2 rfl, g.2.1 10 rfl, g.2.1 11 rfl, g.2.1 12 rfl, g.2.1 13 rfl, g.2.1 14 rfl, g.2.1 15 rfl, g.2.1 16 rfl, g.2.1 2 rfl, g.2.1 3 rfl]
  exact ⟨hs, h2, h3, h4, h5, h6⟩
theorem LkZ_rg {σ τ υ : St} (h : Rg2 σ τ) {a : Int32} (ha : vp_in a 24) (g : ∀ j, (21 ≤ j ∧ j ≤ 23) ∨ 27 ≤ j ∧ j ≤ 28 → gA υ j = gA τ j) (hst : ∀ i : Nat, (i : Int) < (gI σ 2).toInt → -12 ≤ (f10_stepAt υ (nI i)).toInt ∧ (f10_stepAt υ (nI i)).toInt ≤ 12) : LkZ υ a (gI σ 2).toInt (Z0 υ a) (Z1 υ a) := by
  intro i hi
  have hc := h.1.cnt
  obtain ⟨⟨q1, q2, q3, q4, q5, q6, q7⟩, s1, s2, s3, s4, s5, s6⟩ := h.2.2.2.1 i hi
  obtain ⟨⟨p1, p2⟩, p3, p4⟩ := h.2.2.2.2.1 _ (vlt ha)
  have eN := N_nI (i := i) (by omega)
  have le := look_E (σ := σ) (τ := υ) (r := nI i) (h := a) (s := f10_stepAt υ (nI i)) (x := gA σ 2 (Int32.toNatClampNeg a)) (y := gA σ 3 (Int32.toNatClampNeg a)) (by rw [eN, g 21 (by omega)]; exact q2.symm) (by rw [eN, g 22 (by omega)]; exact q3.symm) (by rw [eN, g 23 (by omega)]; exact q4.symm) (by rw [g 27 (by omega)]; exact p1.symm) (by rw [g 28 (by omega)]; exact p2.symm) rfl
  rw [eN] at le
  obtain ⟨r1, r2⟩ := E_rg (σ := σ) (i := i) s2 s3 s4 p3 p4 (hst i hi)
  refine ⟨⟨rfl, rfl⟩, ?_, ?_⟩
  · unfold Z0; rw [le.1]; exact r1
  · unfold Z1; rw [le.2]; exact r2
theorem JN_look2 {σ τ : St} (h : Rg2 σ τ) {a : Int32} (ha : vp_in a 24) : JN (f9_lookFrom σ a) τ a ∧ Ag sI3 pT b45 σ (f9_lookFrom σ a) := by
  have hsf : Safe (f9_lookFrom σ a) := sX9_lookFrom h.1
  obtain ⟨⟨s1, s2⟩, -⟩ := h.2.2.2.2.1 _ (vlt ha)
  unfold f9_lookFrom f0_lookAsTurned at hsf ⊢
  generalize hx : gA σ 2 (Int32.toNatClampNeg a) = x at *
  generalize hy : gA σ 3 (Int32.toNatClampNeg a) = y at *
  rw [turned_eq x y (gA σ 15) 11 (uI σ 3 x) 0 rfl] at hsf ⊢
  have hc : (gI (uI σ 3 x) 2).toInt ≤ 10 := h.1.cnt.2
  obtain ⟨y1, y2, y3⟩ := putL_spec x y (gA σ 15) (fun i hi => h.1.stp i hi) 11 (uI σ 3 x) 0 hc (by rw [lit_0]; omega) (by rw [lit_0]; omega)
  generalize putL x y (gA σ 15) 11 (uI σ 3 x) 0 = ρ at y1 y2 y3 hsf ⊢
  have e2 : gI ρ 2 = gI σ 2 := y1.1 2 rfl
  refine ⟨⟨hsf, h.2.1, ?_, ?_, fun r r1 r2 => ?_, ?_⟩, ((Ag.rf σ).uI rfl).tr (y1.mono (fun _ _ => rfl) (fun _ _ => rfl) (fun _ h => h))⟩
  · rw [e2]; exact h.2.2.1
  · rw [y1.1 3 rfl, ← s1]; rfl
  · rw [e2] at r2
    have hN : ((Int32.toNatClampNeg r : Nat) : Int) = r.toInt := by have := h.1.cnt; simp only [Int32.toNatClampNeg]; omega
    obtain ⟨z1, z2⟩ := y2 (Int32.toNatClampNeg r) (by rw [lit_0]; omega) (by show ((Int32.toNatClampNeg r : Nat) : Int) < (gI σ 2).toInt; omega)
    obtain ⟨⟨q1, q2, q3, q4, q5, q6, q7⟩, -⟩ := h.2.2.2.1 (Int32.toNatClampNeg r) (by omega)
    have le := look_E (σ := uI σ 3 x) (τ := τ) (r := r) (h := a) (s := gA σ 15 (Int32.toNatClampNeg r)) (x := x) (y := y) q2.symm q3.symm q4.symm s1.symm s2.symm (by rw [step99 h.2.2.2.2.2]; exact q6.symm)
    rw [z1, z2, le.1, le.2]
    exact ⟨rfl, rfl⟩
  · rw [e2]
    refine LkZ_rg h ha (fun j hj => rfl) (fun i hi => ?_)
    have hc2 := h.1.cnt
    have eN := N_nI (i := i) (by omega)
    rw [step99 h.2.2.2.2.2, eN, ← (h.2.2.2.1 i hi).1.2.2.2.2.2.1]
    exact h.1.stp i (by omega)
theorem JN_free {σ τ : St} (h : Rg2 σ τ) {a s : Int32} (ha : vp_in a 24) (hs : -12 ≤ s.toInt ∧ s.toInt ≤ 12) {x y : Int32} (hx : gA σ 2 (Int32.toNatClampNeg a) = x) (hy : gA σ 3 (Int32.toNatClampNeg a) = y) :
    JN (f0_isFreeAt_P s x y 11 (uI σ 3 x) 0) (uI τ 29 s) a ∧ Ag sI3 pT b45 σ (f0_isFreeAt_P s x y 11 (uI σ 3 x) 0) := by
  have hsf : Safe (f0_isFreeAt_P s x y 11 (uI σ 3 x) 0) := sX0_isFreeAt_P _ _ _ (sf_I (by decide) h.1)
  rw [free_eq s x y (gA σ 15) (gA σ 10) 11 (uI σ 3 x) 0 rfl rfl] at hsf ⊢
  have hc : (gI (uI σ 3 x) 2).toInt ≤ 10 := h.1.cnt.2
  obtain ⟨y1, y2, y3⟩ := putL_spec x y (fun i => if gA σ 10 i = 1 then gA σ 15 i else s) (fun i hi => by split; exact h.1.stp i hi; exact hs) 11 (uI σ 3 x) 0 hc (by rw [lit_0]; omega) (by rw [lit_0]; omega)
  generalize putL x y (fun i => if gA σ 10 i = 1 then gA σ 15 i else s) 11 (uI σ 3 x) 0 = ρ at hsf y1 y2 y3 ⊢
  have e2 : gI ρ 2 = gI σ 2 := y1.1 2 rfl
  obtain ⟨⟨s1, s2⟩, -⟩ := h.2.2.2.2.1 _ (vlt ha)
  have ne : ¬ s = 99 := fun q => by rw [q, lit_99] at hs; omega
  have est : ∀ r : Int32, 0 ≤ r.toInt → r.toInt < (gI σ 2).toInt → f10_stepAt (uI τ 29 s) r = if gA σ 10 (Int32.toNatClampNeg r) = 1 then gA σ 15 (Int32.toNatClampNeg r) else s := by
    intro r r1 r2
    have hN : ((Int32.toNatClampNeg r : Nat) : Int) = r.toInt := by simp only [Int32.toNatClampNeg]; omega
    obtain ⟨⟨q1, q2, q3, q4, q5, q6, q7⟩, -⟩ := h.2.2.2.1 (Int32.toNatClampNeg r) (by omega)
    unfold f10_stepAt
    have e29 : gI (uI τ 29 s) 29 = s := rfl
    rw [e29, if_neg ne]
    show (if gA τ 20 (Int32.toNatClampNeg r) = 1 then gA τ 25 (Int32.toNatClampNeg r) else s) = _
    rw [q1, q6]
  refine ⟨⟨hsf, sf_I (by decide) h.2.1, ?_, ?_, fun r r1 r2 => ?_, ?_⟩, ((Ag.rf σ).uI rfl).tr (y1.mono (fun _ _ => rfl) (fun _ _ => rfl) (fun _ h => h))⟩
  · rw [e2]; exact h.2.2.1
  · show gI ρ 3 = gA τ 27 (Int32.toNatClampNeg a)
    rw [y1.1 3 rfl, ← s1, hx]; rfl
  · rw [e2] at r2
    have hN : ((Int32.toNatClampNeg r : Nat) : Int) = r.toInt := by simp only [Int32.toNatClampNeg]; omega
    obtain ⟨z1, z2⟩ := y2 (Int32.toNatClampNeg r) (by rw [lit_0]; omega) (by show ((Int32.toNatClampNeg r : Nat) : Int) < (gI σ 2).toInt; omega)
    obtain ⟨⟨q1, q2, q3, q4, q5, q6, q7⟩, -⟩ := h.2.2.2.1 (Int32.toNatClampNeg r) (by omega)
    have le := look_E (σ := uI σ 3 x) (τ := uI τ 29 s) (r := r) (h := a) (s := if gA σ 10 (Int32.toNatClampNeg r) = 1 then gA σ 15 (Int32.toNatClampNeg r) else s) (x := x) (y := y) (by show gA τ 21 _ = gA σ 11 _; exact q2.symm) (by show gA τ 22 _ = gA σ 12 _; exact q3.symm) (by show gA τ 23 _ = gA σ 13 _; exact q4.symm) (by show gA τ 27 _ = x; exact s1.symm.trans hx) (by show gA τ 28 _ = y; exact s2.symm.trans hy) (est r r1 r2)
    rw [z1, z2, le.1, le.2]
    exact ⟨rfl, rfl⟩
  · rw [e2]
    refine LkZ_rg h ha (fun j hj => ?_) (fun i hi => ?_)
    · rfl
    · have hc2 := h.1.cnt
      have eN := N_nI (i := i) (by omega)
      have et := nI_t10 (i := i) (by omega)
      rw [est (nI i) (by omega) (by omega), eN]
      split
      · exact h.1.stp i (by omega)
      · exact hs
theorem free_clear {σ τ : St} (h : Rg2 σ τ) {a s : Int32} (ha : vp_in a 24) (hs : ¬ f9_isStep s = 0) {x y : Int32} (hx : gA σ 2 (Int32.toNatClampNeg a) = x) (hy : gA σ 3 (Int32.toNatClampNeg a) = y) :
    ((f0_isFreeAt σ s x y).1 = 0 ↔ (f10_isClear τ s a).1 = 0) ∧ Ag sI3 pT b45 σ (f0_isFreeAt σ s x y).2 ∧ (f10_isClear τ s a).2 = τ := by
  obtain ⟨J, ga⟩ := JN_free h ha (isStep_rg hs) hx hy
  have e9 : f0_isFreeAt σ s x y = f0_isFreeAt_Q 11 (f0_isFreeAt_P s x y 11 (uI σ 3 x) 0) 0 := by unfold f0_isFreeAt; rw [if_neg hs]
  rw [e9]
  unfold f10_isClear
  generalize f0_isFreeAt_P s x y 11 (uI σ 3 x) 0 = ρ at J ga ⊢
  have hc := J.1.cnt
  have e20 : gI ρ 2 = gI (uI τ 29 s) 20 := J.2.2.1
  have h29 : gI τ 29 = 99 := h.2.2.2.2.2
  obtain ⟨y1, y2⟩ := freeQ hc.2 11 0 (by rw [lit_0]; omega) (by rw [lit_0]; omega) (by rw [lit_0]; omega)
  obtain ⟨z1, z2⟩ := clearL (τ := uI τ 29 s) (a := a) (by rw [← e20]; exact hc.2) 11 1 0 (by rw [lit_0]; omega) (by rw [← e20, lit_0]; omega) (by rw [← e20, lit_0]; omega)
  have key : ∀ i : Nat, (i : Int) < (gI ρ 2).toInt → (bdC ρ i ↔ bdM (uI τ 29 s) a i) := by
    intro i hi
    have e1 := nI_t10 (i := i) (by omega)
    have g0 : 0 ≤ (nI i).toInt := by omega
    have g1 : (nI i).toInt < (gI ρ 2).toInt := by omega
    have ek : gA ρ 10 i = gA (uI τ 29 s) 20 i := by
      rw [ga.2.1 10 rfl]; show gA σ 10 i = gA τ 20 i
      exact (h.2.2.2.1 i (by rw [← ga.1 2 rfl]; exact hi)).1.1
    unfold bdC bdM
    rw [ek]
    constructor
    · rintro ⟨w1, w2, w3⟩
      have l : ¬ f10_breadthOf (uI τ 29 s) (nI i) a ≤ 0 := fun q => w2 ((J.lit g0 g1).mpr q)
      exact ⟨w1, l, fun q => w3 ((J.free g0 g1 l).mpr q)⟩
    · rintro ⟨w1, w2, w3⟩
      exact ⟨w1, fun q => w2 ((J.lit g0 g1).mp q), fun q => w3 ((J.free g0 g1 w2).mp q)⟩
  refine ⟨?_, by rw [y1]; exact ga, by rw [z1]; exact uI_back h29⟩
  rw [y2, z2]
  constructor
  · rintro ⟨i, i1, i2, i3⟩
    exact Or.inr ⟨i, i1, by rw [← e20]; exact i2, (key i i2).mp i3⟩
  · rintro (q | ⟨i, i1, i2, i3⟩)
    · exact absurd q (by decide)
    · have i4 : (i : Int) < (gI ρ 2).toInt := by rw [e20]; exact i2
      exact ⟨i, i1, i4, (key i i4).mpr i3⟩
theorem free_no {σ : St} {s x y : Int32} (hs : f9_isStep s = 0) : f0_isFreeAt σ s x y = (0, σ) := by unfold f0_isFreeAt; rw [if_pos hs]
theorem fr_next {σ σ1 τ : St} {a x y : Int32} (h : Rg2 σ τ) (hx : gA σ 2 (Int32.toNatClampNeg a) = x) (hy : gA σ 3 (Int32.toNatClampNeg a) = y) (q : Ag sI3 pT b45 σ σ1) (hs : Safe σ1) : Rg2 σ1 τ ∧ gA σ1 2 (Int32.toNatClampNeg a) = x ∧ gA σ1 3 (Int32.toNatClampNeg a) = y := by
  exact ⟨h.ag q hs, by rw [q.2.1 2 rfl]; exact hx, by rw [q.2.1 3 rfl]; exact hy⟩
theorem back_half {τ : St} {a x y w f : Int32} {n : Nat} (ha : vp_in a 24)
    (ih : ∀ σ : St, Rg2 σ τ → gA σ 2 (Int32.toNatClampNeg a) = x → gA σ 3 (Int32.toNatClampNeg a) = y → (f0_backStep_L x y w n σ (f + 1)).1 = (f10_backOf_L a w n τ (f + 1)).1 ∧ Ag sI3 pT b45 σ (f0_backStep_L x y w n σ (f + 1)).2 ∧ (f10_backOf_L a w n τ (f + 1)).2 = τ)
    (σ : St) (h : Rg2 σ τ) (hx : gA σ 2 (Int32.toNatClampNeg a) = x) (hy : gA σ 3 (Int32.toNatClampNeg a) = y) {R9 R10 : Int32 × St}
    (e9 : R9 = if (f0_isFreeAt σ (w + f) x y).1 = 0 then f0_backStep_L x y w n (f0_isFreeAt σ (w + f) x y).2 (f + 1) else (w + f, (f0_isFreeAt σ (w + f) x y).2))
    (e10 : R10 = if f10_isStep (w + f) = 0 then f10_backOf_L a w n τ (f + 1) else if (f10_isClear τ (w + f) a).1 = 0 then f10_backOf_L a w n (f10_isClear τ (w + f) a).2 (f + 1) else (w + f, (f10_isClear τ (w + f) a).2)) :
    R9.1 = R10.1 ∧ Ag sI3 pT b45 σ R9.2 ∧ R10.2 = τ := by
  subst e9; subst e10
  by_cases s2 : f9_isStep (w + f) = 0
  · rw [free_no s2, if_pos rfl, if_pos (show f10_isStep (w + f) = 0 from s2)]
    exact ih σ h hx hy
  · obtain ⟨q1, q2, q3⟩ := free_clear h ha s2 hx hy
    rw [if_neg (show ¬ f10_isStep (w + f) = 0 from s2), q3]
    by_cases z : (f0_isFreeAt σ (w + f) x y).1 = 0
    · rw [if_pos z, if_pos (q1.mp z)]
      obtain ⟨n1, n3, n4⟩ := fr_next h hx hy q2 (sX0_isFreeAt h.1)
      obtain ⟨y1, y2, y3⟩ := ih _ n1 n3 n4
      exact ⟨y1, q2.tr y2, y3⟩
    · rw [if_neg z, if_neg (fun w => z (q1.mpr w))]
      exact ⟨rfl, q2, rfl⟩
theorem back_two {τ : St} {a x y w : Int32} (ha : vp_in a 24) : ∀ (n : Nat) (f : Int32) (σ : St), Rg2 σ τ → gA σ 2 (Int32.toNatClampNeg a) = x → gA σ 3 (Int32.toNatClampNeg a) = y →
    (f0_backStep_L x y w n σ f).1 = (f10_backOf_L a w n τ f).1 ∧ Ag sI3 pT b45 σ (f0_backStep_L x y w n σ f).2 ∧ (f10_backOf_L a w n τ f).2 = τ
  | 0, f, σ, h, hx, hy => ⟨rfl, Ag.rf _, rfl⟩
  | n + 1, f, σ, h, hx, hy => by
    have ih := back_two (τ := τ) (a := a) (x := x) (y := y) (w := w) ha n (f + 1)
    unfold f0_backStep_L f10_backOf_L
    by_cases c : (24 : Int32) < f
    · rw [if_pos c, if_pos c]; exact ⟨rfl, Ag.rf _, rfl⟩
    rw [if_neg c, if_neg c]
    by_cases s1 : f9_isStep (w - f) = 0
    · rw [free_no s1, if_pos rfl, if_pos (show f10_isStep (w - f) = 0 from s1)]
      exact back_half ha ih σ h hx hy rfl rfl
    · obtain ⟨q1, q2, q3⟩ := free_clear h ha s1 hx hy
      rw [if_neg (show ¬ f10_isStep (w - f) = 0 from s1), q3]
      by_cases z : (f0_isFreeAt σ (w - f) x y).1 = 0
      · rw [if_pos z, if_pos (q1.mp z)]
        obtain ⟨n1, n3, n4⟩ := fr_next h hx hy q2 (sX0_isFreeAt h.1)
        obtain ⟨y1, y2, y3⟩ := back_half ha ih _ n1 n3 n4 rfl rfl
        exact ⟨y1, q2.tr y2, y3⟩
      · rw [if_neg z, if_neg (fun w => z (q1.mpr w))]
        exact ⟨rfl, q2, rfl⟩
theorem back_eq {σ τ : St} (h : Rg2 σ τ) {a : Int32} (ha : vp_in a 24) : (f0_backStep σ (gA σ 2 (Int32.toNatClampNeg a)) (gA σ 3 (Int32.toNatClampNeg a))).1 = (f10_backOf τ a).1 ∧ Ag sI3 pT b45 σ (f0_backStep σ (gA σ 2 (Int32.toNatClampNeg a)) (gA σ 3 (Int32.toNatClampNeg a))).2 ∧ (f10_backOf τ a).2 = τ := by
  obtain ⟨⟨s1, s2⟩, -⟩ := h.2.2.2.2.1 _ (vlt ha)
  unfold f0_backStep f10_backOf
  rw [ideal_eq (σ := τ) (a := a) (x := gA σ 2 (Int32.toNatClampNeg a)) (y := gA σ 3 (Int32.toNatClampNeg a)) s1.symm s2.symm]
  exact back_two ha 26 0 σ h rfl rfl
theorem pu_back (k : Nat) (σ : St) (a1 : Int32) (h : Rel k σ) : Safe (f9_back σ a1).2 ∧ (f9_back σ a1).1 = (f10_back (f9_back σ a1).2 a1).1 ∧ Rel (k + 1) (f10_back (f9_back σ a1).2 a1).2 := by
  by_cases c1 : f9_isHour a1 = 0
  · exact fin h f1 (fun τ => f10_back τ a1) (by unfold f9_back; exact if_pos c1) (by show f10_back _ _ = _; unfold f10_back; exact if_pos (show f10_isHour a1 = 0 from c1))
  have n1 : ¬ f10_isHour a1 = 0 := c1
  have hi := isHour_in c1
  have en := night_eq h hi
  by_cases c2 : f4_isNight σ a1 = 0
  · obtain ⟨-, ag1, -⟩ := back_eq (h.rg2 (Ag.rf σ) h.1) hi
    have hs1 : Safe (f0_backStep σ (gA σ 2 (Int32.toNatClampNeg a1)) (gA σ 3 (Int32.toNatClampNeg a1))).2 := sX0_backStep h.1
    have m1 := ag1.mono sI_3 (fun _ _ => rfl) sB_45 (qa := sA)
    have hr1 := h.ag m1 hs1
    by_cases z : (f0_backStep σ (gA σ 2 (Int32.toNatClampNeg a1)) (gA σ 3 (Int32.toNatClampNeg a1))).1 = 99
    · refine fin hr1 f2 (fun τ => f10_back τ a1) (by unfold f9_back; exact (if_neg c1).trans ((if_pos c2).trans (if_pos z))) ?_
      have gt := m1.toM.tr (ans_ag (f0_backStep σ (gA σ 2 (Int32.toNatClampNeg a1)) (gA σ 3 (Int32.toNatClampNeg a1))).2 (-1000000002))
      obtain ⟨w1, w2, w3⟩ := back_eq (h.rg2 gt (sX9_answer hs1)) hi
      have en2 : f10_isNight (f9_answer (f0_backStep σ (gA σ 2 (Int32.toNatClampNeg a1)) (gA σ 3 (Int32.toNatClampNeg a1))).2 (-1000000002)).2 a1 = 0 := by
        unfold f10_isNight; rw [gt.2.1 28 rfl]; exact en.trans c2
      show f10_back _ _ = _
      unfold f10_back
      refine (if_neg n1).trans ((if_pos en2).trans ((if_pos (w1.symm.trans z)).trans ?_))
      rw [w3]
    · obtain ⟨w1, w2, w3⟩ := back_eq (h.rg2 m1.toM hs1) hi
      have en2 : f10_isNight (f0_backStep σ (gA σ 2 (Int32.toNatClampNeg a1)) (gA σ 3 (Int32.toNatClampNeg a1))).2 a1 = 0 := by
        unfold f10_isNight; rw [m1.toM.2.1 28 rfl]; exact en.trans c2
      refine okk (fun τ => f10_back τ a1) (τ := (f0_backStep σ (gA σ 2 (Int32.toNatClampNeg a1)) (gA σ 3 (Int32.toNatClampNeg a1))).2) (ρ := (f0_backStep σ (gA σ 2 (Int32.toNatClampNeg a1)) (gA σ 3 (Int32.toNatClampNeg a1))).2) (v := (f0_backStep σ (gA σ 2 (Int32.toNatClampNeg a1)) (gA σ 3 (Int32.toNatClampNeg a1))).1) ?_ ?_ hs1 w1 hr1.up
      · unfold f9_back; exact (if_neg c1).trans ((if_pos c2).trans (if_neg z))
      · show f10_back _ _ = _
        unfold f10_back
        refine (if_neg n1).trans ((if_pos en2).trans ((if_neg (fun q => z (w1.trans q))).trans ?_))
        rw [w3]
  · exact fin h f3 (fun τ => f10_back τ a1) (by unfold f9_back; exact (if_neg c1).trans (if_neg c2)) (by show f10_back _ _ = _; unfold f10_back; exact (if_neg n1).trans (if_neg (fun q => c2 (en.symm.trans q))))
