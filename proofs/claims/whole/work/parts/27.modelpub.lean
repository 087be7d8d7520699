theorem mod3 {t : Int32} (ht : 0 ≤ t.toInt ∧ t.toInt ≤ 72) (h : t - t / (3 : Int32) * (3 : Int32) = 0) : t.toInt % 3 = 0 := by
  obtain ⟨j, hj, rfl⟩ := vp_in_of (vin ht.1 (by omega : t.toInt < (73 : Nat))) (by decide)
  have : ∀ j : Nat, j < 73 → nI j - nI j / (3 : Int32) * (3 : Int32) = 0 → (nI j).toInt % 3 = 0 := by decide +kernel
  exact this j hj h
theorem U3.cv {j : Int32} {n : Nat} (h : U3 j n) {t : Int32} (hc : ¬ t ≤ j) (ht : 0 ≤ t.toInt ∧ t.toInt ≤ 72) (hm : t.toInt % 3 = 0) : ¬ t ≤ j + (2 : Int32) := by
  have h1 := t_nle hc rfl rfl
  obtain ⟨h2, h3, h4, h5⟩ := h
  rw [i_le, i_addk (b := 100) lit_2 h2 (by omega) (by omega) (by omega)]
  omega
def AllSM (σ : St) (j : Int32) : Prop := ∀ i : Nat, i % 3 = 0 → (i : Int) < j.toInt → ¬ f10_isSun (gA σ 32 i) (gA σ 32 (i + 1)) (gA σ 32 (i + 2)) = 0
def AllTM (σ : St) (t : Int32) : Prop := ∀ i : Nat, i % 3 = 0 → (i : Int) + 2 < t.toInt → ¬ f10_isSun (gA σ 32 i) (gA σ 32 (i + 1)) (gA σ 32 (i + 2)) = 0
theorem AllSM.start {σ : St} : AllSM σ (0 : Int32) := fun i _ h => by rw [lit_0] at h; omega
theorem AllSM.step {σ : St} {j : Int32} {n : Nat} (ha : AllSM σ j) (h : U3 j n) {t : Int32} (hc : ¬ t ≤ j + (2 : Int32)) (ht : t.toInt ≤ 72) (hw : ¬ f10_isSun (gA σ 32 (Int32.toNatClampNeg j)) (gA σ 32 (Int32.toNatClampNeg (j + (1 : Int32)))) (gA σ 32 (Int32.toNatClampNeg (j + (2 : Int32)))) = 0) : AllSM σ (j + (3 : Int32)) := by
  intro i h1 h2
  have h3 := h.lt hc ht
  obtain ⟨e1, e2⟩ := h.nat hc ht
  rw [e1, e2] at hw
  obtain ⟨h4, h5, h6, h7⟩ := h
  rw [i_addk (b := 100) lit_3 h4 (by omega) (by omega) (by omega)] at h2
  have h8 : (Int32.toNatClampNeg j : Int) = j.toInt := by simp only [Int32.toNatClampNeg]; omega
  by_cases q : (i : Int) < j.toInt
  · exact ha i h1 q
  · have : i = Int32.toNatClampNeg j := by omega
    rw [this]; exact hw
theorem AllSM.all {σ : St} {j : Int32} {n : Nat} (ha : AllSM σ j) (h : U3 j n) {t : Int32} (hc : t ≤ j) (ht : t.toInt ≤ 72) : AllTM σ t := by
  intro i h1 h2
  have h3 := t_le hc rfl rfl
  exact ha i h1 (by omega)
theorem AllTM.at {σ : St} {j t : Int32} {n : Nat} (ha : AllTM σ t) (h : U3 j n) (hc : ¬ t ≤ j + (2 : Int32)) (ht : t.toInt ≤ 72) : ¬ f10_isSun (gA σ 32 (Int32.toNatClampNeg j)) (gA σ 32 (Int32.toNatClampNeg (j + (1 : Int32)))) (gA σ 32 (Int32.toNatClampNeg (j + (2 : Int32)))) = 0 := by
  obtain ⟨e1, e2⟩ := h.nat hc ht
  have h3 := h.lt hc ht
  have h4 := h.1
  have h5 := h.2.2.1
  have h8 : (Int32.toNatClampNeg j : Int) = j.toInt := by simp only [Int32.toNatClampNeg]; omega
  rw [e1, e2]
  exact ha _ (by omega) (by omega)
theorem AllTM.put {σ : St} {t : Int32} {a b c : Int32} (ha : AllTM σ t) : AllTM (f10_setSun σ a b c) t := ha
def f10_row_F (σ : St) (a1 : Int32) (a2 : Int32) (a3 : Int32) (a4 : Int32) (a5 : Int32) : Int32 × St :=
  (if a1 = (1 : Int32) then (((gI (uI (uA (uA (uA (uA (uA (uA (uA σ 20 (Int32.toNatClampNeg (gI σ 20)) a1) 21 (Int32.toNatClampNeg (gI (uA σ 20 (Int32.toNatClampNeg (gI σ 20)) a1) 20)) a2) 22 (Int32.toNatClampNeg (gI (uA (uA σ 20 (Int32.toNatClampNeg (gI σ 20)) a1) 21 (Int32.toNatClampNeg (gI (uA σ 20 (Int32.toNatClampNeg (gI σ 20)) a1) 20)) a2) 20)) a3) 23 (Int32.toNatClampNeg (gI (uA (uA (uA σ 20 (Int32.toNatClampNeg (gI σ 20)) a1) 21 (Int32.toNatClampNeg (gI (uA σ 20 (Int32.toNatClampNeg (gI σ 20)) a1) 20)) a2) 22 (Int32.toNatClampNeg (gI (uA (uA σ 20 (Int32.toNatClampNeg (gI σ 20)) a1) 21 (Int32.toNatClampNeg (gI (uA σ 20 (Int32.toNatClampNeg (gI σ 20)) a1) 20)) a2) 20)) a3) 20)) a4) 24 (Int32.toNatClampNeg (gI (uA (uA (uA (uA σ 20 (Int32.toNatClampNeg (gI σ 20)) a1) 21 (Int32.toNatClampNeg (gI (uA σ 20 (Int32.toNatClampNeg (gI σ 20)) a1) 20)) a2) 22 (Int32.toNatClampNeg (gI (uA (uA σ 20 (Int32.toNatClampNeg (gI σ 20)) a1) 21 (Int32.toNatClampNeg (gI (uA σ 20 (Int32.toNatClampNeg (gI σ 20)) a1) 20)) a2) 20)) a3) 23 (Int32.toNatClampNeg (gI (uA (uA (uA σ 20 (Int32.toNatClampNeg (gI σ 20)) a1) 21 (Int32.toNatClampNeg (gI (uA σ 20 (Int32.toNatClampNeg (gI σ 20)) a1) 20)) a2) 22 (Int32.toNatClampNeg (gI (uA (uA σ 20 (Int32.toNatClampNeg (gI σ 20)) a1) 21 (Int32.toNatClampNeg (gI (uA σ 20 (Int32.toNatClampNeg (gI σ 20)) a1) 20)) a2) 20)) a3) 20)) a4) 20)) (0 : Int32)) 25 (Int32.toNatClampNeg (gI (uA (uA (uA (uA (uA σ 20 (Int32.toNatClampNeg (gI σ 20)) a1) 21 (Int32.toNatClampNeg (gI (uA σ 20 (Int32.toNatClampNeg (gI σ 20)) a1) 20)) a2) 22 (Int32.toNatClampNeg (gI (uA (uA σ 20 (Int32.toNatClampNeg (gI σ 20)) a1) 21 (Int32.toNatClampNeg (gI (uA σ 20 (Int32.toNatClampNeg (gI σ 20)) a1) 20)) a2) 20)) a3) 23 (Int32.toNatClampNeg (gI (uA (uA (uA σ 20 (Int32.toNatClampNeg (gI σ 20)) a1) 21 (Int32.toNatClampNeg (gI (uA σ 20 (Int32.toNatClampNeg (gI σ 20)) a1) 20)) a2) 22 (Int32.toNatClampNeg (gI (uA (uA σ 20 (Int32.toNatClampNeg (gI σ 20)) a1) 21 (Int32.toNatClampNeg (gI (uA σ 20 (Int32.toNatClampNeg (gI σ 20)) a1) 20)) a2) 20)) a3) 20)) a4) 24 (Int32.toNatClampNeg (gI (uA (uA (uA (uA σ 20 (Int32.toNatClampNeg (gI σ 20)) a1) 21 (Int32.toNatClampNeg (gI (uA σ 20 (Int32.toNatClampNeg (gI σ 20)) a1) 20)) a2) 22 (Int32.toNatClampNeg (gI (uA (uA σ 20 (Int32.toNatClampNeg (gI σ 20)) a1) 21 (Int32.toNatClampNeg (gI (uA σ 20 (Int32.toNatClampNeg (gI σ 20)) a1) 20)) a2) 20)) a3) 23 (Int32.toNatClampNeg (gI (uA (uA (uA σ 20 (Int32.toNatClampNeg (gI σ 20)) a1) 21 (Int32.toNatClampNeg (gI (uA σ 20 (Int32.toNatClampNeg (gI σ 20)) a1) 20)) a2) 22 (Int32.toNatClampNeg (gI (uA (uA σ 20 (Int32.toNatClampNeg (gI σ 20)) a1) 21 (Int32.toNatClampNeg (gI (uA σ 20 (Int32.toNatClampNeg (gI σ 20)) a1) 20)) a2) 20)) a3) 20)) a4) 20)) (0 : Int32)) 20)) a5) 26 (Int32.toNatClampNeg (gI (uA (uA (uA (uA (uA (uA σ 20 (Int32.toNatClampNeg (gI σ 20)) a1) 21 (Int32.toNatClampNeg (gI (uA σ 20 (Int32.toNatClampNeg (gI σ 20)) a1) 20)) a2) 22 (Int32.toNatClampNeg (gI (uA (uA σ 20 (Int32.toNatClampNeg (gI σ 20)) a1) 21 (Int32.toNatClampNeg (gI (uA σ 20 (Int32.toNatClampNeg (gI σ 20)) a1) 20)) a2) 20)) a3) 23 (Int32.toNatClampNeg (gI (uA (uA (uA σ 20 (Int32.toNatClampNeg (gI σ 20)) a1) 21 (Int32.toNatClampNeg (gI (uA σ 20 (Int32.toNatClampNeg (gI σ 20)) a1) 20)) a2) 22 (Int32.toNatClampNeg (gI (uA (uA σ 20 (Int32.toNatClampNeg (gI σ 20)) a1) 21 (Int32.toNatClampNeg (gI (uA σ 20 (Int32.toNatClampNeg (gI σ 20)) a1) 20)) a2) 20)) a3) 20)) a4) 24 (Int32.toNatClampNeg (gI (uA (uA (uA (uA σ 20 (Int32.toNatClampNeg (gI σ 20)) a1) 21 (Int32.toNatClampNeg (gI (uA σ 20 (Int32.toNatClampNeg (gI σ 20)) a1) 20)) a2) 22 (Int32.toNatClampNeg (gI (uA (uA σ 20 (Int32.toNatClampNeg (gI σ 20)) a1) 21 (Int32.toNatClampNeg (gI (uA σ 20 (Int32.toNatClampNeg (gI σ 20)) a1) 20)) a2) 20)) a3) 23 (Int32.toNatClampNeg (gI (uA (uA (uA σ 20 (Int32.toNatClampNeg (gI σ 20)) a1) 21 (Int32.toNatClampNeg (gI (uA σ 20 (Int32.toNatClampNeg (gI σ 20)) a1) 20)) a2) 22 (Int32.toNatClampNeg (gI (uA (uA σ 20 (Int32.toNatClampNeg (gI σ 20)) a1) 21 (Int32.toNatClampNeg (gI (uA σ 20 (Int32.toNatClampNeg (gI σ 20)) a1) 20)) a2) 20)) a3) 20)) a4) 20)) (0 : Int32)) 25 (Int32.toNatClampNeg (gI (uA (uA (uA (uA (uA σ 20 (Int32.toNatClampNeg (gI σ 20)) a1) 21 (Int32.toNatClampNeg (gI (uA σ 20 (Int32.toNatClampNeg (gI σ 20)) a1) 20)) a2) 22 (Int32.toNatClampNeg (gI (uA (uA σ 20 (Int32.toNatClampNeg (gI σ 20)) a1) 21 (Int32.toNatClampNeg (gI (uA σ 20 (Int32.toNatClampNeg (gI σ 20)) a1) 20)) a2) 20)) a3) 23 (Int32.toNatClampNeg (gI (uA (uA (uA σ 20 (Int32.toNatClampNeg (gI σ 20)) a1) 21 (Int32.toNatClampNeg (gI (uA σ 20 (Int32.toNatClampNeg (gI σ 20)) a1) 20)) a2) 22 (Int32.toNatClampNeg (gI (uA (uA σ 20 (Int32.toNatClampNeg (gI σ 20)) a1) 21 (Int32.toNatClampNeg (gI (uA σ 20 (Int32.toNatClampNeg (gI σ 20)) a1) 20)) a2) 20)) a3) 20)) a4) 24 (Int32.toNatClampNeg (gI (uA (uA (uA (uA σ 20 (Int32.toNatClampNeg (gI σ 20)) a1) 21 (Int32.toNatClampNeg (gI (uA σ 20 (Int32.toNatClampNeg (gI σ 20)) a1) 20)) a2) 22 (Int32.toNatClampNeg (gI (uA (uA σ 20 (Int32.toNatClampNeg (gI σ 20)) a1) 21 (Int32.toNatClampNeg (gI (uA σ 20 (Int32.toNatClampNeg (gI σ 20)) a1) 20)) a2) 20)) a3) 23 (Int32.toNatClampNeg (gI (uA (uA (uA σ 20 (Int32.toNatClampNeg (gI σ 20)) a1) 21 (Int32.toNatClampNeg (gI (uA σ 20 (Int32.toNatClampNeg (gI σ 20)) a1) 20)) a2) 22 (Int32.toNatClampNeg (gI (uA (uA σ 20 (Int32.toNatClampNeg (gI σ 20)) a1) 21 (Int32.toNatClampNeg (gI (uA σ 20 (Int32.toNatClampNeg (gI σ 20)) a1) 20)) a2) 20)) a3) 20)) a4) 20)) (0 : Int32)) 20)) a5) 20)) (-1 : Int32)) 20 ((gI (uA (uA (uA (uA (uA (uA (uA σ 20 (Int32.toNatClampNeg (gI σ 20)) a1) 21 (Int32.toNatClampNeg (gI (uA σ 20 (Int32.toNatClampNeg (gI σ 20)) a1) 20)) a2) 22 (Int32.toNatClampNeg (gI (uA (uA σ 20 (Int32.toNatClampNeg (gI σ 20)) a1) 21 (Int32.toNatClampNeg (gI (uA σ 20 (Int32.toNatClampNeg (gI σ 20)) a1) 20)) a2) 20)) a3) 23 (Int32.toNatClampNeg (gI (uA (uA (uA σ 20 (Int32.toNatClampNeg (gI σ 20)) a1) 21 (Int32.toNatClampNeg (gI (uA σ 20 (Int32.toNatClampNeg (gI σ 20)) a1) 20)) a2) 22 (Int32.toNatClampNeg (gI (uA (uA σ 20 (Int32.toNatClampNeg (gI σ 20)) a1) 21 (Int32.toNatClampNeg (gI (uA σ 20 (Int32.toNatClampNeg (gI σ 20)) a1) 20)) a2) 20)) a3) 20)) a4) 24 (Int32.toNatClampNeg (gI (uA (uA (uA (uA σ 20 (Int32.toNatClampNeg (gI σ 20)) a1) 21 (Int32.toNatClampNeg (gI (uA σ 20 (Int32.toNatClampNeg (gI σ 20)) a1) 20)) a2) 22 (Int32.toNatClampNeg (gI (uA (uA σ 20 (Int32.toNatClampNeg (gI σ 20)) a1) 21 (Int32.toNatClampNeg (gI (uA σ 20 (Int32.toNatClampNeg (gI σ 20)) a1) 20)) a2) 20)) a3) 23 (Int32.toNatClampNeg (gI (uA (uA (uA σ 20 (Int32.toNatClampNeg (gI σ 20)) a1) 21 (Int32.toNatClampNeg (gI (uA σ 20 (Int32.toNatClampNeg (gI σ 20)) a1) 20)) a2) 22 (Int32.toNatClampNeg (gI (uA (uA σ 20 (Int32.toNatClampNeg (gI σ 20)) a1) 21 (Int32.toNatClampNeg (gI (uA σ 20 (Int32.toNatClampNeg (gI σ 20)) a1) 20)) a2) 20)) a3) 20)) a4) 20)) (0 : Int32)) 25 (Int32.toNatClampNeg (gI (uA (uA (uA (uA (uA σ 20 (Int32.toNatClampNeg (gI σ 20)) a1) 21 (Int32.toNatClampNeg (gI (uA σ 20 (Int32.toNatClampNeg (gI σ 20)) a1) 20)) a2) 22 (Int32.toNatClampNeg (gI (uA (uA σ 20 (Int32.toNatClampNeg (gI σ 20)) a1) 21 (Int32.toNatClampNeg (gI (uA σ 20 (Int32.toNatClampNeg (gI σ 20)) a1) 20)) a2) 20)) a3) 23 (Int32.toNatClampNeg (gI (uA (uA (uA σ 20 (Int32.toNatClampNeg (gI σ 20)) a1) 21 (Int32.toNatClampNeg (gI (uA σ 20 (Int32.toNatClampNeg (gI σ 20)) a1) 20)) a2) 22 (Int32.toNatClampNeg (gI (uA (uA σ 20 (Int32.toNatClampNeg (gI σ 20)) a1) 21 (Int32.toNatClampNeg (gI (uA σ 20 (Int32.toNatClampNeg (gI σ 20)) a1) 20)) a2) 20)) a3) 20)) a4) 24 (Int32.toNatClampNeg (gI (uA (uA (uA (uA σ 20 (Int32.toNatClampNeg (gI σ 20)) a1) 21 (Int32.toNatClampNeg (gI (uA σ 20 (Int32.toNatClampNeg (gI σ 20)) a1) 20)) a2) 22 (Int32.toNatClampNeg (gI (uA (uA σ 20 (Int32.toNatClampNeg (gI σ 20)) a1) 21 (Int32.toNatClampNeg (gI (uA σ 20 (Int32.toNatClampNeg (gI σ 20)) a1) 20)) a2) 20)) a3) 23 (Int32.toNatClampNeg (gI (uA (uA (uA σ 20 (Int32.toNatClampNeg (gI σ 20)) a1) 21 (Int32.toNatClampNeg (gI (uA σ 20 (Int32.toNatClampNeg (gI σ 20)) a1) 20)) a2) 22 (Int32.toNatClampNeg (gI (uA (uA σ 20 (Int32.toNatClampNeg (gI σ 20)) a1) 21 (Int32.toNatClampNeg (gI (uA σ 20 (Int32.toNatClampNeg (gI σ 20)) a1) 20)) a2) 20)) a3) 20)) a4) 20)) (0 : Int32)) 20)) a5) 26 (Int32.toNatClampNeg (gI (uA (uA (uA (uA (uA (uA σ 20 (Int32.toNatClampNeg (gI σ 20)) a1) 21 (Int32.toNatClampNeg (gI (uA σ 20 (Int32.toNatClampNeg (gI σ 20)) a1) 20)) a2) 22 (Int32.toNatClampNeg (gI (uA (uA σ 20 (Int32.toNatClampNeg (gI σ 20)) a1) 21 (Int32.toNatClampNeg (gI (uA σ 20 (Int32.toNatClampNeg (gI σ 20)) a1) 20)) a2) 20)) a3) 23 (Int32.toNatClampNeg (gI (uA (uA (uA σ 20 (Int32.toNatClampNeg (gI σ 20)) a1) 21 (Int32.toNatClampNeg (gI (uA σ 20 (Int32.toNatClampNeg (gI σ 20)) a1) 20)) a2) 22 (Int32.toNatClampNeg (gI (uA (uA σ 20 (Int32.toNatClampNeg (gI σ 20)) a1) 21 (Int32.toNatClampNeg (gI (uA σ 20 (Int32.toNatClampNeg (gI σ 20)) a1) 20)) a2) 20)) a3) 20)) a4) 24 (Int32.toNatClampNeg (gI (uA (uA (uA (uA σ 20 (Int32.toNatClampNeg (gI σ 20)) a1) 21 (Int32.toNatClampNeg (gI (uA σ 20 (Int32.toNatClampNeg (gI σ 20)) a1) 20)) a2) 22 (Int32.toNatClampNeg (gI (uA (uA σ 20 (Int32.toNatClampNeg (gI σ 20)) a1) 21 (Int32.toNatClampNeg (gI (uA σ 20 (Int32.toNatClampNeg (gI σ 20)) a1) 20)) a2) 20)) a3) 23 (Int32.toNatClampNeg (gI (uA (uA (uA σ 20 (Int32.toNatClampNeg (gI σ 20)) a1) 21 (Int32.toNatClampNeg (gI (uA σ 20 (Int32.toNatClampNeg (gI σ 20)) a1) 20)) a2) 22 (Int32.toNatClampNeg (gI (uA (uA σ 20 (Int32.toNatClampNeg (gI σ 20)) a1) 21 (Int32.toNatClampNeg (gI (uA σ 20 (Int32.toNatClampNeg (gI σ 20)) a1) 20)) a2) 20)) a3) 20)) a4) 20)) (0 : Int32)) 25 (Int32.toNatClampNeg (gI (uA (uA (uA (uA (uA σ 20 (Int32.toNatClampNeg (gI σ 20)) a1) 21 (Int32.toNatClampNeg (gI (uA σ 20 (Int32.toNatClampNeg (gI σ 20)) a1) 20)) a2) 22 (Int32.toNatClampNeg (gI (uA (uA σ 20 (Int32.toNatClampNeg (gI σ 20)) a1) 21 (Int32.toNatClampNeg (gI (uA σ 20 (Int32.toNatClampNeg (gI σ 20)) a1) 20)) a2) 20)) a3) 23 (Int32.toNatClampNeg (gI (uA (uA (uA σ 20 (Int32.toNatClampNeg (gI σ 20)) a1) 21 (Int32.toNatClampNeg (gI (uA σ 20 (Int32.toNatClampNeg (gI σ 20)) a1) 20)) a2) 22 (Int32.toNatClampNeg (gI (uA (uA σ 20 (Int32.toNatClampNeg (gI σ 20)) a1) 21 (Int32.toNatClampNeg (gI (uA σ 20 (Int32.toNatClampNeg (gI σ 20)) a1) 20)) a2) 20)) a3) 20)) a4) 24 (Int32.toNatClampNeg (gI (uA (uA (uA (uA σ 20 (Int32.toNatClampNeg (gI σ 20)) a1) 21 (Int32.toNatClampNeg (gI (uA σ 20 (Int32.toNatClampNeg (gI σ 20)) a1) 20)) a2) 22 (Int32.toNatClampNeg (gI (uA (uA σ 20 (Int32.toNatClampNeg (gI σ 20)) a1) 21 (Int32.toNatClampNeg (gI (uA σ 20 (Int32.toNatClampNeg (gI σ 20)) a1) 20)) a2) 20)) a3) 23 (Int32.toNatClampNeg (gI (uA (uA (uA σ 20 (Int32.toNatClampNeg (gI σ 20)) a1) 21 (Int32.toNatClampNeg (gI (uA σ 20 (Int32.toNatClampNeg (gI σ 20)) a1) 20)) a2) 22 (Int32.toNatClampNeg (gI (uA (uA σ 20 (Int32.toNatClampNeg (gI σ 20)) a1) 21 (Int32.toNatClampNeg (gI (uA σ 20 (Int32.toNatClampNeg (gI σ 20)) a1) 20)) a2) 20)) a3) 20)) a4) 20)) (0 : Int32)) 20)) a5) 20)) (-1 : Int32)) 20) + (1 : Int32))) 20) - (1 : Int32)), (uI (uA (uA (uA (uA (uA (uA (uA σ 20 (Int32.toNatClampNeg (gI σ 20)) a1) 21 (Int32.toNatClampNeg (gI (uA σ 20 (Int32.toNatClampNeg (gI σ 20)) a1) 20)) a2) 22 (Int32.toNatClampNeg (gI (uA (uA σ 20 (Int32.toNatClampNeg (gI σ 20)) a1) 21 (Int32.toNatClampNeg (gI (uA σ 20 (Int32.toNatClampNeg (gI σ 20)) a1) 20)) a2) 20)) a3) 23 (Int32.toNatClampNeg (gI (uA (uA (uA σ 20 (Int32.toNatClampNeg (gI σ 20)) a1) 21 (Int32.toNatClampNeg (gI (uA σ 20 (Int32.toNatClampNeg (gI σ 20)) a1) 20)) a2) 22 (Int32.toNatClampNeg (gI (uA (uA σ 20 (Int32.toNatClampNeg (gI σ 20)) a1) 21 (Int32.toNatClampNeg (gI (uA σ 20 (Int32.toNatClampNeg (gI σ 20)) a1) 20)) a2) 20)) a3) 20)) a4) 24 (Int32.toNatClampNeg (gI (uA (uA (uA (uA σ 20 (Int32.toNatClampNeg (gI σ 20)) a1) 21 (Int32.toNatClampNeg (gI (uA σ 20 (Int32.toNatClampNeg (gI σ 20)) a1) 20)) a2) 22 (Int32.toNatClampNeg (gI (uA (uA σ 20 (Int32.toNatClampNeg (gI σ 20)) a1) 21 (Int32.toNatClampNeg (gI (uA σ 20 (Int32.toNatClampNeg (gI σ 20)) a1) 20)) a2) 20)) a3) 23 (Int32.toNatClampNeg (gI (uA (uA (uA σ 20 (Int32.toNatClampNeg (gI σ 20)) a1) 21 (Int32.toNatClampNeg (gI (uA σ 20 (Int32.toNatClampNeg (gI σ 20)) a1) 20)) a2) 22 (Int32.toNatClampNeg (gI (uA (uA σ 20 (Int32.toNatClampNeg (gI σ 20)) a1) 21 (Int32.toNatClampNeg (gI (uA σ 20 (Int32.toNatClampNeg (gI σ 20)) a1) 20)) a2) 20)) a3) 20)) a4) 20)) (0 : Int32)) 25 (Int32.toNatClampNeg (gI (uA (uA (uA (uA (uA σ 20 (Int32.toNatClampNeg (gI σ 20)) a1) 21 (Int32.toNatClampNeg (gI (uA σ 20 (Int32.toNatClampNeg (gI σ 20)) a1) 20)) a2) 22 (Int32.toNatClampNeg (gI (uA (uA σ 20 (Int32.toNatClampNeg (gI σ 20)) a1) 21 (Int32.toNatClampNeg (gI (uA σ 20 (Int32.toNatClampNeg (gI σ 20)) a1) 20)) a2) 20)) a3) 23 (Int32.toNatClampNeg (gI (uA (uA (uA σ 20 (Int32.toNatClampNeg (gI σ 20)) a1) 21 (Int32.toNatClampNeg (gI (uA σ 20 (Int32.toNatClampNeg (gI σ 20)) a1) 20)) a2) 22 (Int32.toNatClampNeg (gI (uA (uA σ 20 (Int32.toNatClampNeg (gI σ 20)) a1) 21 (Int32.toNatClampNeg (gI (uA σ 20 (Int32.toNatClampNeg (gI σ 20)) a1) 20)) a2) 20)) a3) 20)) a4) 24 (Int32.toNatClampNeg (gI (uA (uA (uA (uA σ 20 (Int32.toNatClampNeg (gI σ 20)) a1) 21 (Int32.toNatClampNeg (gI (uA σ 20 (Int32.toNatClampNeg (gI σ 20)) a1) 20)) a2) 22 (Int32.toNatClampNeg (gI (uA (uA σ 20 (Int32.toNatClampNeg (gI σ 20)) a1) 21 (Int32.toNatClampNeg (gI (uA σ 20 (Int32.toNatClampNeg (gI σ 20)) a1) 20)) a2) 20)) a3) 23 (Int32.toNatClampNeg (gI (uA (uA (uA σ 20 (Int32.toNatClampNeg (gI σ 20)) a1) 21 (Int32.toNatClampNeg (gI (uA σ 20 (Int32.toNatClampNeg (gI σ 20)) a1) 20)) a2) 22 (Int32.toNatClampNeg (gI (uA (uA σ 20 (Int32.toNatClampNeg (gI σ 20)) a1) 21 (Int32.toNatClampNeg (gI (uA σ 20 (Int32.toNatClampNeg (gI σ 20)) a1) 20)) a2) 20)) a3) 20)) a4) 20)) (0 : Int32)) 20)) a5) 26 (Int32.toNatClampNeg (gI (uA (uA (uA (uA (uA (uA σ 20 (Int32.toNatClampNeg (gI σ 20)) a1) 21 (Int32.toNatClampNeg (gI (uA σ 20 (Int32.toNatClampNeg (gI σ 20)) a1) 20)) a2) 22 (Int32.toNatClampNeg (gI (uA (uA σ 20 (Int32.toNatClampNeg (gI σ 20)) a1) 21 (Int32.toNatClampNeg (gI (uA σ 20 (Int32.toNatClampNeg (gI σ 20)) a1) 20)) a2) 20)) a3) 23 (Int32.toNatClampNeg (gI (uA (uA (uA σ 20 (Int32.toNatClampNeg (gI σ 20)) a1) 21 (Int32.toNatClampNeg (gI (uA σ 20 (Int32.toNatClampNeg (gI σ 20)) a1) 20)) a2) 22 (Int32.toNatClampNeg (gI (uA (uA σ 20 (Int32.toNatClampNeg (gI σ 20)) a1) 21 (Int32.toNatClampNeg (gI (uA σ 20 (Int32.toNatClampNeg (gI σ 20)) a1) 20)) a2) 20)) a3) 20)) a4) 24 (Int32.toNatClampNeg (gI (uA (uA (uA (uA σ 20 (Int32.toNatClampNeg (gI σ 20)) a1) 21 (Int32.toNatClampNeg (gI (uA σ 20 (Int32.toNatClampNeg (gI σ 20)) a1) 20)) a2) 22 (Int32.toNatClampNeg (gI (uA (uA σ 20 (Int32.toNatClampNeg (gI σ 20)) a1) 21 (Int32.toNatClampNeg (gI (uA σ 20 (Int32.toNatClampNeg (gI σ 20)) a1) 20)) a2) 20)) a3) 23 (Int32.toNatClampNeg (gI (uA (uA (uA σ 20 (Int32.toNatClampNeg (gI σ 20)) a1) 21 (Int32.toNatClampNeg (gI (uA σ 20 (Int32.toNatClampNeg (gI σ 20)) a1) 20)) a2) 22 (Int32.toNatClampNeg (gI (uA (uA σ 20 (Int32.toNatClampNeg (gI σ 20)) a1) 21 (Int32.toNatClampNeg (gI (uA σ 20 (Int32.toNatClampNeg (gI σ 20)) a1) 20)) a2) 20)) a3) 20)) a4) 20)) (0 : Int32)) 25 (Int32.toNatClampNeg (gI (uA (uA (uA (uA (uA σ 20 (Int32.toNatClampNeg (gI σ 20)) a1) 21 (Int32.toNatClampNeg (gI (uA σ 20 (Int32.toNatClampNeg (gI σ 20)) a1) 20)) a2) 22 (Int32.toNatClampNeg (gI (uA (uA σ 20 (Int32.toNatClampNeg (gI σ 20)) a1) 21 (Int32.toNatClampNeg (gI (uA σ 20 (Int32.toNatClampNeg (gI σ 20)) a1) 20)) a2) 20)) a3) 23 (Int32.toNatClampNeg (gI (uA (uA (uA σ 20 (Int32.toNatClampNeg (gI σ 20)) a1) 21 (Int32.toNatClampNeg (gI (uA σ 20 (Int32.toNatClampNeg (gI σ 20)) a1) 20)) a2) 22 (Int32.toNatClampNeg (gI (uA (uA σ 20 (Int32.toNatClampNeg (gI σ 20)) a1) 21 (Int32.toNatClampNeg (gI (uA σ 20 (Int32.toNatClampNeg (gI σ 20)) a1) 20)) a2) 20)) a3) 20)) a4) 24 (Int32.toNatClampNeg (gI (uA (uA (uA (uA σ 20 (Int32.toNatClampNeg (gI σ 20)) a1) 21 (Int32.toNatClampNeg (gI (uA σ 20 (Int32.toNatClampNeg (gI σ 20)) a1) 20)) a2) 22 (Int32.toNatClampNeg (gI (uA (uA σ 20 (Int32.toNatClampNeg (gI σ 20)) a1) 21 (Int32.toNatClampNeg (gI (uA σ 20 (Int32.toNatClampNeg (gI σ 20)) a1) 20)) a2) 20)) a3) 23 (Int32.toNatClampNeg (gI (uA (uA (uA σ 20 (Int32.toNatClampNeg (gI σ 20)) a1) 21 (Int32.toNatClampNeg (gI (uA σ 20 (Int32.toNatClampNeg (gI σ 20)) a1) 20)) a2) 22 (Int32.toNatClampNeg (gI (uA (uA σ 20 (Int32.toNatClampNeg (gI σ 20)) a1) 21 (Int32.toNatClampNeg (gI (uA σ 20 (Int32.toNatClampNeg (gI σ 20)) a1) 20)) a2) 20)) a3) 20)) a4) 20)) (0 : Int32)) 20)) a5) 20)) (-1 : Int32)) 20 ((gI (uA (uA (uA (uA (uA (uA (uA σ 20 (Int32.toNatClampNeg (gI σ 20)) a1) 21 (Int32.toNatClampNeg (gI (uA σ 20 (Int32.toNatClampNeg (gI σ 20)) a1) 20)) a2) 22 (Int32.toNatClampNeg (gI (uA (uA σ 20 (Int32.toNatClampNeg (gI σ 20)) a1) 21 (Int32.toNatClampNeg (gI (uA σ 20 (Int32.toNatClampNeg (gI σ 20)) a1) 20)) a2) 20)) a3) 23 (Int32.toNatClampNeg (gI (uA (uA (uA σ 20 (Int32.toNatClampNeg (gI σ 20)) a1) 21 (Int32.toNatClampNeg (gI (uA σ 20 (Int32.toNatClampNeg (gI σ 20)) a1) 20)) a2) 22 (Int32.toNatClampNeg (gI (uA (uA σ 20 (Int32.toNatClampNeg (gI σ 20)) a1) 21 (Int32.toNatClampNeg (gI (uA σ 20 (Int32.toNatClampNeg (gI σ 20)) a1) 20)) a2) 20)) a3) 20)) a4) 24 (Int32.toNatClampNeg (gI (uA (uA (uA (uA σ 20 (Int32.toNatClampNeg (gI σ 20)) a1) 21 (Int32.toNatClampNeg (gI (uA σ 20 (Int32.toNatClampNeg (gI σ 20)) a1) 20)) a2) 22 (Int32.toNatClampNeg (gI (uA (uA σ 20 (Int32.toNatClampNeg (gI σ 20)) a1) 21 (Int32.toNatClampNeg (gI (uA σ 20 (Int32.toNatClampNeg (gI σ 20)) a1) 20)) a2) 20)) a3) 23 (Int32.toNatClampNeg (gI (uA (uA (uA σ 20 (Int32.toNatClampNeg (gI σ 20)) a1) 21 (Int32.toNatClampNeg (gI (uA σ 20 (Int32.toNatClampNeg (gI σ 20)) a1) 20)) a2) 22 (Int32.toNatClampNeg (gI (uA (uA σ 20 (Int32.toNatClampNeg (gI σ 20)) a1) 21 (Int32.toNatClampNeg (gI (uA σ 20 (Int32.toNatClampNeg (gI σ 20)) a1) 20)) a2) 20)) a3) 20)) a4) 20)) (0 : Int32)) 25 (Int32.toNatClampNeg (gI (uA (uA (uA (uA (uA σ 20 (Int32.toNatClampNeg (gI σ 20)) a1) 21 (Int32.toNatClampNeg (gI (uA σ 20 (Int32.toNatClampNeg (gI σ 20)) a1) 20)) a2) 22 (Int32.toNatClampNeg (gI (uA (uA σ 20 (Int32.toNatClampNeg (gI σ 20)) a1) 21 (Int32.toNatClampNeg (gI (uA σ 20 (Int32.toNatClampNeg (gI σ 20)) a1) 20)) a2) 20)) a3) 23 (Int32.toNatClampNeg (gI (uA (uA (uA σ 20 (Int32.toNatClampNeg (gI σ 20)) a1) 21 (Int32.toNatClampNeg (gI (uA σ 20 (Int32.toNatClampNeg (gI σ 20)) a1) 20)) a2) 22 (Int32.toNatClampNeg (gI (uA (uA σ 20 (Int32.toNatClampNeg (gI σ 20)) a1) 21 (Int32.toNatClampNeg (gI (uA σ 20 (Int32.toNatClampNeg (gI σ 20)) a1) 20)) a2) 20)) a3) 20)) a4) 24 (Int32.toNatClampNeg (gI (uA (uA (uA (uA σ 20 (Int32.toNatClampNeg (gI σ 20)) a1) 21 (Int32.toNatClampNeg (gI (uA σ 20 (Int32.toNatClampNeg (gI σ 20)) a1) 20)) a2) 22 (Int32.toNatClampNeg (gI (uA (uA σ 20 (Int32.toNatClampNeg (gI σ 20)) a1) 21 (Int32.toNatClampNeg (gI (uA σ 20 (Int32.toNatClampNeg (gI σ 20)) a1) 20)) a2) 20)) a3) 23 (Int32.toNatClampNeg (gI (uA (uA (uA σ 20 (Int32.toNatClampNeg (gI σ 20)) a1) 21 (Int32.toNatClampNeg (gI (uA σ 20 (Int32.toNatClampNeg (gI σ 20)) a1) 20)) a2) 22 (Int32.toNatClampNeg (gI (uA (uA σ 20 (Int32.toNatClampNeg (gI σ 20)) a1) 21 (Int32.toNatClampNeg (gI (uA σ 20 (Int32.toNatClampNeg (gI σ 20)) a1) 20)) a2) 20)) a3) 20)) a4) 20)) (0 : Int32)) 20)) a5) 26 (Int32.toNatClampNeg (gI (uA (uA (uA (uA (uA (uA σ 20 (Int32.toNatClampNeg (gI σ 20)) a1) 21 (Int32.toNatClampNeg (gI (uA σ 20 (Int32.toNatClampNeg (gI σ 20)) a1) 20)) a2) 22 (Int32.toNatClampNeg (gI (uA (uA σ 20 (Int32.toNatClampNeg (gI σ 20)) a1) 21 (Int32.toNatClampNeg (gI (uA σ 20 (Int32.toNatClampNeg (gI σ 20)) a1) 20)) a2) 20)) a3) 23 (Int32.toNatClampNeg (gI (uA (uA (uA σ 20 (Int32.toNatClampNeg (gI σ 20)) a1) 21 (Int32.toNatClampNeg (gI (uA σ 20 (Int32.toNatClampNeg (gI σ 20)) a1) 20)) a2) 22 (Int32.toNatClampNeg (gI (uA (uA σ 20 (Int32.toNatClampNeg (gI σ 20)) a1) 21 (Int32.toNatClampNeg (gI (uA σ 20 (Int32.toNatClampNeg (gI σ 20)) a1) 20)) a2) 20)) a3) 20)) a4) 24 (Int32.toNatClampNeg (gI (uA (uA (uA (uA σ 20 (Int32.toNatClampNeg (gI σ 20)) a1) 21 (Int32.toNatClampNeg (gI (uA σ 20 (Int32.toNatClampNeg (gI σ 20)) a1) 20)) a2) 22 (Int32.toNatClampNeg (gI (uA (uA σ 20 (Int32.toNatClampNeg (gI σ 20)) a1) 21 (Int32.toNatClampNeg (gI (uA σ 20 (Int32.toNatClampNeg (gI σ 20)) a1) 20)) a2) 20)) a3) 23 (Int32.toNatClampNeg (gI (uA (uA (uA σ 20 (Int32.toNatClampNeg (gI σ 20)) a1) 21 (Int32.toNatClampNeg (gI (uA σ 20 (Int32.toNatClampNeg (gI σ 20)) a1) 20)) a2) 22 (Int32.toNatClampNeg (gI (uA (uA σ 20 (Int32.toNatClampNeg (gI σ 20)) a1) 21 (Int32.toNatClampNeg (gI (uA σ 20 (Int32.toNatClampNeg (gI σ 20)) a1) 20)) a2) 20)) a3) 20)) a4) 20)) (0 : Int32)) 25 (Int32.toNatClampNeg (gI (uA (uA (uA (uA (uA σ 20 (Int32.toNatClampNeg (gI σ 20)) a1) 21 (Int32.toNatClampNeg (gI (uA σ 20 (Int32.toNatClampNeg (gI σ 20)) a1) 20)) a2) 22 (Int32.toNatClampNeg (gI (uA (uA σ 20 (Int32.toNatClampNeg (gI σ 20)) a1) 21 (Int32.toNatClampNeg (gI (uA σ 20 (Int32.toNatClampNeg (gI σ 20)) a1) 20)) a2) 20)) a3) 23 (Int32.toNatClampNeg (gI (uA (uA (uA σ 20 (Int32.toNatClampNeg (gI σ 20)) a1) 21 (Int32.toNatClampNeg (gI (uA σ 20 (Int32.toNatClampNeg (gI σ 20)) a1) 20)) a2) 22 (Int32.toNatClampNeg (gI (uA (uA σ 20 (Int32.toNatClampNeg (gI σ 20)) a1) 21 (Int32.toNatClampNeg (gI (uA σ 20 (Int32.toNatClampNeg (gI σ 20)) a1) 20)) a2) 20)) a3) 20)) a4) 24 (Int32.toNatClampNeg (gI (uA (uA (uA (uA σ 20 (Int32.toNatClampNeg (gI σ 20)) a1) 21 (Int32.toNatClampNeg (gI (uA σ 20 (Int32.toNatClampNeg (gI σ 20)) a1) 20)) a2) 22 (Int32.toNatClampNeg (gI (uA (uA σ 20 (Int32.toNatClampNeg (gI σ 20)) a1) 21 (Int32.toNatClampNeg (gI (uA σ 20 (Int32.toNatClampNeg (gI σ 20)) a1) 20)) a2) 20)) a3) 23 (Int32.toNatClampNeg (gI (uA (uA (uA σ 20 (Int32.toNatClampNeg (gI σ 20)) a1) 21 (Int32.toNatClampNeg (gI (uA σ 20 (Int32.toNatClampNeg (gI σ 20)) a1) 20)) a2) 22 (Int32.toNatClampNeg (gI (uA (uA σ 20 (Int32.toNatClampNeg (gI σ 20)) a1) 21 (Int32.toNatClampNeg (gI (uA σ 20 (Int32.toNatClampNeg (gI σ 20)) a1) 20)) a2) 20)) a3) 20)) a4) 20)) (0 : Int32)) 20)) a5) 20)) (-1 : Int32)) 20) + (1 : Int32)))) else (((gI (uI (uA (uA (uA (uA (uA (uA (uA σ 20 (Int32.toNatClampNeg (gI σ 20)) a1) 21 (Int32.toNatClampNeg (gI (uA σ 20 (Int32.toNatClampNeg (gI σ 20)) a1) 20)) a2) 22 (Int32.toNatClampNeg (gI (uA (uA σ 20 (Int32.toNatClampNeg (gI σ 20)) a1) 21 (Int32.toNatClampNeg (gI (uA σ 20 (Int32.toNatClampNeg (gI σ 20)) a1) 20)) a2) 20)) a3) 23 (Int32.toNatClampNeg (gI (uA (uA (uA σ 20 (Int32.toNatClampNeg (gI σ 20)) a1) 21 (Int32.toNatClampNeg (gI (uA σ 20 (Int32.toNatClampNeg (gI σ 20)) a1) 20)) a2) 22 (Int32.toNatClampNeg (gI (uA (uA σ 20 (Int32.toNatClampNeg (gI σ 20)) a1) 21 (Int32.toNatClampNeg (gI (uA σ 20 (Int32.toNatClampNeg (gI σ 20)) a1) 20)) a2) 20)) a3) 20)) a4) 24 (Int32.toNatClampNeg (gI (uA (uA (uA (uA σ 20 (Int32.toNatClampNeg (gI σ 20)) a1) 21 (Int32.toNatClampNeg (gI (uA σ 20 (Int32.toNatClampNeg (gI σ 20)) a1) 20)) a2) 22 (Int32.toNatClampNeg (gI (uA (uA σ 20 (Int32.toNatClampNeg (gI σ 20)) a1) 21 (Int32.toNatClampNeg (gI (uA σ 20 (Int32.toNatClampNeg (gI σ 20)) a1) 20)) a2) 20)) a3) 23 (Int32.toNatClampNeg (gI (uA (uA (uA σ 20 (Int32.toNatClampNeg (gI σ 20)) a1) 21 (Int32.toNatClampNeg (gI (uA σ 20 (Int32.toNatClampNeg (gI σ 20)) a1) 20)) a2) 22 (Int32.toNatClampNeg (gI (uA (uA σ 20 (Int32.toNatClampNeg (gI σ 20)) a1) 21 (Int32.toNatClampNeg (gI (uA σ 20 (Int32.toNatClampNeg (gI σ 20)) a1) 20)) a2) 20)) a3) 20)) a4) 20)) (0 : Int32)) 25 (Int32.toNatClampNeg (gI (uA (uA (uA (uA (uA σ 20 (Int32.toNatClampNeg (gI σ 20)) a1) 21 (Int32.toNatClampNeg (gI (uA σ 20 (Int32.toNatClampNeg (gI σ 20)) a1) 20)) a2) 22 (Int32.toNatClampNeg (gI (uA (uA σ 20 (Int32.toNatClampNeg (gI σ 20)) a1) 21 (Int32.toNatClampNeg (gI (uA σ 20 (Int32.toNatClampNeg (gI σ 20)) a1) 20)) a2) 20)) a3) 23 (Int32.toNatClampNeg (gI (uA (uA (uA σ 20 (Int32.toNatClampNeg (gI σ 20)) a1) 21 (Int32.toNatClampNeg (gI (uA σ 20 (Int32.toNatClampNeg (gI σ 20)) a1) 20)) a2) 22 (Int32.toNatClampNeg (gI (uA (uA σ 20 (Int32.toNatClampNeg (gI σ 20)) a1) 21 (Int32.toNatClampNeg (gI (uA σ 20 (Int32.toNatClampNeg (gI σ 20)) a1) 20)) a2) 20)) a3) 20)) a4) 24 (Int32.toNatClampNeg (gI (uA (uA (uA (uA σ 20 (Int32.toNatClampNeg (gI σ 20)) a1) 21 (Int32.toNatClampNeg (gI (uA σ 20 (Int32.toNatClampNeg (gI σ 20)) a1) 20)) a2) 22 (Int32.toNatClampNeg (gI (uA (uA σ 20 (Int32.toNatClampNeg (gI σ 20)) a1) 21 (Int32.toNatClampNeg (gI (uA σ 20 (Int32.toNatClampNeg (gI σ 20)) a1) 20)) a2) 20)) a3) 23 (Int32.toNatClampNeg (gI (uA (uA (uA σ 20 (Int32.toNatClampNeg (gI σ 20)) a1) 21 (Int32.toNatClampNeg (gI (uA σ 20 (Int32.toNatClampNeg (gI σ 20)) a1) 20)) a2) 22 (Int32.toNatClampNeg (gI (uA (uA σ 20 (Int32.toNatClampNeg (gI σ 20)) a1) 21 (Int32.toNatClampNeg (gI (uA σ 20 (Int32.toNatClampNeg (gI σ 20)) a1) 20)) a2) 20)) a3) 20)) a4) 20)) (0 : Int32)) 20)) (0 : Int32)) 26 (Int32.toNatClampNeg (gI (uA (uA (uA (uA (uA (uA σ 20 (Int32.toNatClampNeg (gI σ 20)) a1) 21 (Int32.toNatClampNeg (gI (uA σ 20 (Int32.toNatClampNeg (gI σ 20)) a1) 20)) a2) 22 (Int32.toNatClampNeg (gI (uA (uA σ 20 (Int32.toNatClampNeg (gI σ 20)) a1) 21 (Int32.toNatClampNeg (gI (uA σ 20 (Int32.toNatClampNeg (gI σ 20)) a1) 20)) a2) 20)) a3) 23 (Int32.toNatClampNeg (gI (uA (uA (uA σ 20 (Int32.toNatClampNeg (gI σ 20)) a1) 21 (Int32.toNatClampNeg (gI (uA σ 20 (Int32.toNatClampNeg (gI σ 20)) a1) 20)) a2) 22 (Int32.toNatClampNeg (gI (uA (uA σ 20 (Int32.toNatClampNeg (gI σ 20)) a1) 21 (Int32.toNatClampNeg (gI (uA σ 20 (Int32.toNatClampNeg (gI σ 20)) a1) 20)) a2) 20)) a3) 20)) a4) 24 (Int32.toNatClampNeg (gI (uA (uA (uA (uA σ 20 (Int32.toNatClampNeg (gI σ 20)) a1) 21 (Int32.toNatClampNeg (gI (uA σ 20 (Int32.toNatClampNeg (gI σ 20)) a1) 20)) a2) 22 (Int32.toNatClampNeg (gI (uA (uA σ 20 (Int32.toNatClampNeg (gI σ 20)) a1) 21 (Int32.toNatClampNeg (gI (uA σ 20 (Int32.toNatClampNeg (gI σ 20)) a1) 20)) a2) 20)) a3) 23 (Int32.toNatClampNeg (gI (uA (uA (uA σ 20 (Int32.toNatClampNeg (gI σ 20)) a1) 21 (Int32.toNatClampNeg (gI (uA σ 20 (Int32.toNatClampNeg (gI σ 20)) a1) 20)) a2) 22 (Int32.toNatClampNeg (gI (uA (uA σ 20 (Int32.toNatClampNeg (gI σ 20)) a1) 21 (Int32.toNatClampNeg (gI (uA σ 20 (Int32.toNatClampNeg (gI σ 20)) a1) 20)) a2) 20)) a3) 20)) a4) 20)) (0 : Int32)) 25 (Int32.toNatClampNeg (gI (uA (uA (uA (uA (uA σ 20 (Int32.toNatClampNeg (gI σ 20)) a1) 21 (Int32.toNatClampNeg (gI (uA σ 20 (Int32.toNatClampNeg (gI σ 20)) a1) 20)) a2) 22 (Int32.toNatClampNeg (gI (uA (uA σ 20 (Int32.toNatClampNeg (gI σ 20)) a1) 21 (Int32.toNatClampNeg (gI (uA σ 20 (Int32.toNatClampNeg (gI σ 20)) a1) 20)) a2) 20)) a3) 23 (Int32.toNatClampNeg (gI (uA (uA (uA σ 20 (Int32.toNatClampNeg (gI σ 20)) a1) 21 (Int32.toNatClampNeg (gI (uA σ 20 (Int32.toNatClampNeg (gI σ 20)) a1) 20)) a2) 22 (Int32.toNatClampNeg (gI (uA (uA σ 20 (Int32.toNatClampNeg (gI σ 20)) a1) 21 (Int32.toNatClampNeg (gI (uA σ 20 (Int32.toNatClampNeg (gI σ 20)) a1) 20)) a2) 20)) a3) 20)) a4) 24 (Int32.toNatClampNeg (gI (uA (uA (uA (uA σ 20 (Int32.toNatClampNeg (gI σ 20)) a1) 21 (Int32.toNatClampNeg (gI (uA σ 20 (Int32.toNatClampNeg (gI σ 20)) a1) 20)) a2) 22 (Int32.toNatClampNeg (gI (uA (uA σ 20 (Int32.toNatClampNeg (gI σ 20)) a1) 21 (Int32.toNatClampNeg (gI (uA σ 20 (Int32.toNatClampNeg (gI σ 20)) a1) 20)) a2) 20)) a3) 23 (Int32.toNatClampNeg (gI (uA (uA (uA σ 20 (Int32.toNatClampNeg (gI σ 20)) a1) 21 (Int32.toNatClampNeg (gI (uA σ 20 (Int32.toNatClampNeg (gI σ 20)) a1) 20)) a2) 22 (Int32.toNatClampNeg (gI (uA (uA σ 20 (Int32.toNatClampNeg (gI σ 20)) a1) 21 (Int32.toNatClampNeg (gI (uA σ 20 (Int32.toNatClampNeg (gI σ 20)) a1) 20)) a2) 20)) a3) 20)) a4) 20)) (0 : Int32)) 20)) (0 : Int32)) 20)) (-1 : Int32)) 20 ((gI (uA (uA (uA (uA (uA (uA (uA σ 20 (Int32.toNatClampNeg (gI σ 20)) a1) 21 (Int32.toNatClampNeg (gI (uA σ 20 (Int32.toNatClampNeg (gI σ 20)) a1) 20)) a2) 22 (Int32.toNatClampNeg (gI (uA (uA σ 20 (Int32.toNatClampNeg (gI σ 20)) a1) 21 (Int32.toNatClampNeg (gI (uA σ 20 (Int32.toNatClampNeg (gI σ 20)) a1) 20)) a2) 20)) a3) 23 (Int32.toNatClampNeg (gI (uA (uA (uA σ 20 (Int32.toNatClampNeg (gI σ 20)) a1) 21 (Int32.toNatClampNeg (gI (uA σ 20 (Int32.toNatClampNeg (gI σ 20)) a1) 20)) a2) 22 (Int32.toNatClampNeg (gI (uA (uA σ 20 (Int32.toNatClampNeg (gI σ 20)) a1) 21 (Int32.toNatClampNeg (gI (uA σ 20 (Int32.toNatClampNeg (gI σ 20)) a1) 20)) a2) 20)) a3) 20)) a4) 24 (Int32.toNatClampNeg (gI (uA (uA (uA (uA σ 20 (Int32.toNatClampNeg (gI σ 20)) a1) 21 (Int32.toNatClampNeg (gI (uA σ 20 (Int32.toNatClampNeg (gI σ 20)) a1) 20)) a2) 22 (Int32.toNatClampNeg (gI (uA (uA σ 20 (Int32.toNatClampNeg (gI σ 20)) a1) 21 (Int32.toNatClampNeg (gI (uA σ 20 (Int32.toNatClampNeg (gI σ 20)) a1) 20)) a2) 20)) a3) 23 (Int32.toNatClampNeg (gI (uA (uA (uA σ 20 (Int32.toNatClampNeg (gI σ 20)) a1) 21 (Int32.toNatClampNeg (gI (uA σ 20 (Int32.toNatClampNeg (gI σ 20)) a1) 20)) a2) 22 (Int32.toNatClampNeg (gI (uA (uA σ 20 (Int32.toNatClampNeg (gI σ 20)) a1) 21 (Int32.toNatClampNeg (gI (uA σ 20 (Int32.toNatClampNeg (gI σ 20)) a1) 20)) a2) 20)) a3) 20)) a4) 20)) (0 : Int32)) 25 (Int32.toNatClampNeg (gI (uA (uA (uA (uA (uA σ 20 (Int32.toNatClampNeg (gI σ 20)) a1) 21 (Int32.toNatClampNeg (gI (uA σ 20 (Int32.toNatClampNeg (gI σ 20)) a1) 20)) a2) 22 (Int32.toNatClampNeg (gI (uA (uA σ 20 (Int32.toNatClampNeg (gI σ 20)) a1) 21 (Int32.toNatClampNeg (gI (uA σ 20 (Int32.toNatClampNeg (gI σ 20)) a1) 20)) a2) 20)) a3) 23 (Int32.toNatClampNeg (gI (uA (uA (uA σ 20 (Int32.toNatClampNeg (gI σ 20)) a1) 21 (Int32.toNatClampNeg (gI (uA σ 20 (Int32.toNatClampNeg (gI σ 20)) a1) 20)) a2) 22 (Int32.toNatClampNeg (gI (uA (uA σ 20 (Int32.toNatClampNeg (gI σ 20)) a1) 21 (Int32.toNatClampNeg (gI (uA σ 20 (Int32.toNatClampNeg (gI σ 20)) a1) 20)) a2) 20)) a3) 20)) a4) 24 (Int32.toNatClampNeg (gI (uA (uA (uA (uA σ 20 (Int32.toNatClampNeg (gI σ 20)) a1) 21 (Int32.toNatClampNeg (gI (uA σ 20 (Int32.toNatClampNeg (gI σ 20)) a1) 20)) a2) 22 (Int32.toNatClampNeg (gI (uA (uA σ 20 (Int32.toNatClampNeg (gI σ 20)) a1) 21 (Int32.toNatClampNeg (gI (uA σ 20 (Int32.toNatClampNeg (gI σ 20)) a1) 20)) a2) 20)) a3) 23 (Int32.toNatClampNeg (gI (uA (uA (uA σ 20 (Int32.toNatClampNeg (gI σ 20)) a1) 21 (Int32.toNatClampNeg (gI (uA σ 20 (Int32.toNatClampNeg (gI σ 20)) a1) 20)) a2) 22 (Int32.toNatClampNeg (gI (uA (uA σ 20 (Int32.toNatClampNeg (gI σ 20)) a1) 21 (Int32.toNatClampNeg (gI (uA σ 20 (Int32.toNatClampNeg (gI σ 20)) a1) 20)) a2) 20)) a3) 20)) a4) 20)) (0 : Int32)) 20)) (0 : Int32)) 26 (Int32.toNatClampNeg (gI (uA (uA (uA (uA (uA (uA σ 20 (Int32.toNatClampNeg (gI σ 20)) a1) 21 (Int32.toNatClampNeg (gI (uA σ 20 (Int32.toNatClampNeg (gI σ 20)) a1) 20)) a2) 22 (Int32.toNatClampNeg (gI (uA (uA σ 20 (Int32.toNatClampNeg (gI σ 20)) a1) 21 (Int32.toNatClampNeg (gI (uA σ 20 (Int32.toNatClampNeg (gI σ 20)) a1) 20)) a2) 20)) a3) 23 (Int32.toNatClampNeg (gI (uA (uA (uA σ 20 (Int32.toNatClampNeg (gI σ 20)) a1) 21 (Int32.toNatClampNeg (gI (uA σ 20 (Int32.toNatClampNeg (gI σ 20)) a1) 20)) a2) 22 (Int32.toNatClampNeg (gI (uA (uA σ 20 (Int32.toNatClampNeg (gI σ 20)) a1) 21 (Int32.toNatClampNeg (gI (uA σ 20 (Int32.toNatClampNeg (gI σ 20)) a1) 20)) a2) 20)) a3) 20)) a4) 24 (Int32.toNatClampNeg (gI (uA (uA (uA (uA σ 20 (Int32.toNatClampNeg (gI σ 20)) a1) 21 (Int32.toNatClampNeg (gI (uA σ 20 (Int32.toNatClampNeg (gI σ 20)) a1) 20)) a2) 22 (Int32.toNatClampNeg (gI (uA (uA σ 20 (Int32.toNatClampNeg (gI σ 20)) a1) 21 (Int32.toNatClampNeg (gI (uA σ 20 (Int32.toNatClampNeg (gI σ 20)) a1) 20)) a2) 20)) a3) 23 (Int32.toNatClampNeg (gI (uA (uA (uA σ 20 (Int32.toNatClampNeg (gI σ 20)) a1) 21 (Int32.toNatClampNeg (gI (uA σ 20 (Int32.toNatClampNeg (gI σ 20)) a1) 20)) a2) 22 (Int32.toNatClampNeg (gI (uA (uA σ 20 (Int32.toNatClampNeg (gI σ 20)) a1) 21 (Int32.toNatClampNeg (gI (uA σ 20 (Int32.toNatClampNeg (gI σ 20)) a1) 20)) a2) 20)) a3) 20)) a4) 20)) (0 : Int32)) 25 (Int32.toNatClampNeg (gI (uA (uA (uA (uA (uA σ 20 (Int32.toNatClampNeg (gI σ 20)) a1) 21 (Int32.toNatClampNeg (gI (uA σ 20 (Int32.toNatClampNeg (gI σ 20)) a1) 20)) a2) 22 (Int32.toNatClampNeg (gI (uA (uA σ 20 (Int32.toNatClampNeg (gI σ 20)) a1) 21 (Int32.toNatClampNeg (gI (uA σ 20 (Int32.toNatClampNeg (gI σ 20)) a1) 20)) a2) 20)) a3) 23 (Int32.toNatClampNeg (gI (uA (uA (uA σ 20 (Int32.toNatClampNeg (gI σ 20)) a1) 21 (Int32.toNatClampNeg (gI (uA σ 20 (Int32.toNatClampNeg (gI σ 20)) a1) 20)) a2) 22 (Int32.toNatClampNeg (gI (uA (uA σ 20 (Int32.toNatClampNeg (gI σ 20)) a1) 21 (Int32.toNatClampNeg (gI (uA σ 20 (Int32.toNatClampNeg (gI σ 20)) a1) 20)) a2) 20)) a3) 20)) a4) 24 (Int32.toNatClampNeg (gI (uA (uA (uA (uA σ 20 (Int32.toNatClampNeg (gI σ 20)) a1) 21 (Int32.toNatClampNeg (gI (uA σ 20 (Int32.toNatClampNeg (gI σ 20)) a1) 20)) a2) 22 (Int32.toNatClampNeg (gI (uA (uA σ 20 (Int32.toNatClampNeg (gI σ 20)) a1) 21 (Int32.toNatClampNeg (gI (uA σ 20 (Int32.toNatClampNeg (gI σ 20)) a1) 20)) a2) 20)) a3) 23 (Int32.toNatClampNeg (gI (uA (uA (uA σ 20 (Int32.toNatClampNeg (gI σ 20)) a1) 21 (Int32.toNatClampNeg (gI (uA σ 20 (Int32.toNatClampNeg (gI σ 20)) a1) 20)) a2) 22 (Int32.toNatClampNeg (gI (uA (uA σ 20 (Int32.toNatClampNeg (gI σ 20)) a1) 21 (Int32.toNatClampNeg (gI (uA σ 20 (Int32.toNatClampNeg (gI σ 20)) a1) 20)) a2) 20)) a3) 20)) a4) 20)) (0 : Int32)) 20)) (0 : Int32)) 20)) (-1 : Int32)) 20) + (1 : Int32))) 20) - (1 : Int32)), (uI (uA (uA (uA (uA (uA (uA (uA σ 20 (Int32.toNatClampNeg (gI σ 20)) a1) 21 (Int32.toNatClampNeg (gI (uA σ 20 (Int32.toNatClampNeg (gI σ 20)) a1) 20)) a2) 22 (Int32.toNatClampNeg (gI (uA (uA σ 20 (Int32.toNatClampNeg (gI σ 20)) a1) 21 (Int32.toNatClampNeg (gI (uA σ 20 (Int32.toNatClampNeg (gI σ 20)) a1) 20)) a2) 20)) a3) 23 (Int32.toNatClampNeg (gI (uA (uA (uA σ 20 (Int32.toNatClampNeg (gI σ 20)) a1) 21 (Int32.toNatClampNeg (gI (uA σ 20 (Int32.toNatClampNeg (gI σ 20)) a1) 20)) a2) 22 (Int32.toNatClampNeg (gI (uA (uA σ 20 (Int32.toNatClampNeg (gI σ 20)) a1) 21 (Int32.toNatClampNeg (gI (uA σ 20 (Int32.toNatClampNeg (gI σ 20)) a1) 20)) a2) 20)) a3) 20)) a4) 24 (Int32.toNatClampNeg (gI (uA (uA (uA (uA σ 20 (Int32.toNatClampNeg (gI σ 20)) a1) 21 (Int32.toNatClampNeg (gI (uA σ 20 (Int32.toNatClampNeg (gI σ 20)) a1) 20)) a2) 22 (Int32.toNatClampNeg (gI (uA (uA σ 20 (Int32.toNatClampNeg (gI σ 20)) a1) 21 (Int32.toNatClampNeg (gI (uA σ 20 (Int32.toNatClampNeg (gI σ 20)) a1) 20)) a2) 20)) a3) 23 (Int32.toNatClampNeg (gI (uA (uA (uA σ 20 (Int32.toNatClampNeg (gI σ 20)) a1) 21 (Int32.toNatClampNeg (gI (uA σ 20 (Int32.toNatClampNeg (gI σ 20)) a1) 20)) a2) 22 (Int32.toNatClampNeg (gI (uA (uA σ 20 (Int32.toNatClampNeg (gI σ 20)) a1) 21 (Int32.toNatClampNeg (gI (uA σ 20 (Int32.toNatClampNeg (gI σ 20)) a1) 20)) a2) 20)) a3) 20)) a4) 20)) (0 : Int32)) 25 (Int32.toNatClampNeg (gI (uA (uA (uA (uA (uA σ 20 (Int32.toNatClampNeg (gI σ 20)) a1) 21 (Int32.toNatClampNeg (gI (uA σ 20 (Int32.toNatClampNeg (gI σ 20)) a1) 20)) a2) 22 (Int32.toNatClampNeg (gI (uA (uA σ 20 (Int32.toNatClampNeg (gI σ 20)) a1) 21 (Int32.toNatClampNeg (gI (uA σ 20 (Int32.toNatClampNeg (gI σ 20)) a1) 20)) a2) 20)) a3) 23 (Int32.toNatClampNeg (gI (uA (uA (uA σ 20 (Int32.toNatClampNeg (gI σ 20)) a1) 21 (Int32.toNatClampNeg (gI (uA σ 20 (Int32.toNatClampNeg (gI σ 20)) a1) 20)) a2) 22 (Int32.toNatClampNeg (gI (uA (uA σ 20 (Int32.toNatClampNeg (gI σ 20)) a1) 21 (Int32.toNatClampNeg (gI (uA σ 20 (Int32.toNatClampNeg (gI σ 20)) a1) 20)) a2) 20)) a3) 20)) a4) 24 (Int32.toNatClampNeg (gI (uA (uA (uA (uA σ 20 (Int32.toNatClampNeg (gI σ 20)) a1) 21 (Int32.toNatClampNeg (gI (uA σ 20 (Int32.toNatClampNeg (gI σ 20)) a1) 20)) a2) 22 (Int32.toNatClampNeg (gI (uA (uA σ 20 (Int32.toNatClampNeg (gI σ 20)) a1) 21 (Int32.toNatClampNeg (gI (uA σ 20 (Int32.toNatClampNeg (gI σ 20)) a1) 20)) a2) 20)) a3) 23 (Int32.toNatClampNeg (gI (uA (uA (uA σ 20 (Int32.toNatClampNeg (gI σ 20)) a1) 21 (Int32.toNatClampNeg (gI (uA σ 20 (Int32.toNatClampNeg (gI σ 20)) a1) 20)) a2) 22 (Int32.toNatClampNeg (gI (uA (uA σ 20 (Int32.toNatClampNeg (gI σ 20)) a1) 21 (Int32.toNatClampNeg (gI (uA σ 20 (Int32.toNatClampNeg (gI σ 20)) a1) 20)) a2) 20)) a3) 20)) a4) 20)) (0 : Int32)) 20)) (0 : Int32)) 26 (Int32.toNatClampNeg (gI (uA (uA (uA (uA (uA (uA σ 20 (Int32.toNatClampNeg (gI σ 20)) a1) 21 (Int32.toNatClampNeg (gI (uA σ 20 (Int32.toNatClampNeg (gI σ 20)) a1) 20)) a2) 22 (Int32.toNatClampNeg (gI (uA (uA σ 20 (Int32.toNatClampNeg (gI σ 20)) a1) 21 (Int32.toNatClampNeg (gI (uA σ 20 (Int32.toNatClampNeg (gI σ 20)) a1) 20)) a2) 20)) a3) 23 (Int32.toNatClampNeg (gI (uA (uA (uA σ 20 (Int32.toNatClampNeg (gI σ 20)) a1) 21 (Int32.toNatClampNeg (gI (uA σ 20 (Int32.toNatClampNeg (gI σ 20)) a1) 20)) a2) 22 (Int32.toNatClampNeg (gI (uA (uA σ 20 (Int32.toNatClampNeg (gI σ 20)) a1) 21 (Int32.toNatClampNeg (gI (uA σ 20 (Int32.toNatClampNeg (gI σ 20)) a1) 20)) a2) 20)) a3) 20)) a4) 24 (Int32.toNatClampNeg (gI (uA (uA (uA (uA σ 20 (Int32.toNatClampNeg (gI σ 20)) a1) 21 (Int32.toNatClampNeg (gI (uA σ 20 (Int32.toNatClampNeg (gI σ 20)) a1) 20)) a2) 22 (Int32.toNatClampNeg (gI (uA (uA σ 20 (Int32.toNatClampNeg (gI σ 20)) a1) 21 (Int32.toNatClampNeg (gI (uA σ 20 (Int32.toNatClampNeg (gI σ 20)) a1) 20)) a2) 20)) a3) 23 (Int32.toNatClampNeg (gI (uA (uA (uA σ 20 (Int32.toNatClampNeg (gI σ 20)) a1) 21 (Int32.toNatClampNeg (gI (uA σ 20 (Int32.toNatClampNeg (gI σ 20)) a1) 20)) a2) 22 (Int32.toNatClampNeg (gI (uA (uA σ 20 (Int32.toNatClampNeg (gI σ 20)) a1) 21 (Int32.toNatClampNeg (gI (uA σ 20 (Int32.toNatClampNeg (gI σ 20)) a1) 20)) a2) 20)) a3) 20)) a4) 20)) (0 : Int32)) 25 (Int32.toNatClampNeg (gI (uA (uA (uA (uA (uA σ 20 (Int32.toNatClampNeg (gI σ 20)) a1) 21 (Int32.toNatClampNeg (gI (uA σ 20 (Int32.toNatClampNeg (gI σ 20)) a1) 20)) a2) 22 (Int32.toNatClampNeg (gI (uA (uA σ 20 (Int32.toNatClampNeg (gI σ 20)) a1) 21 (Int32.toNatClampNeg (gI (uA σ 20 (Int32.toNatClampNeg (gI σ 20)) a1) 20)) a2) 20)) a3) 23 (Int32.toNatClampNeg (gI (uA (uA (uA σ 20 (Int32.toNatClampNeg (gI σ 20)) a1) 21 (Int32.toNatClampNeg (gI (uA σ 20 (Int32.toNatClampNeg (gI σ 20)) a1) 20)) a2) 22 (Int32.toNatClampNeg (gI (uA (uA σ 20 (Int32.toNatClampNeg (gI σ 20)) a1) 21 (Int32.toNatClampNeg (gI (uA σ 20 (Int32.toNatClampNeg (gI σ 20)) a1) 20)) a2) 20)) a3) 20)) a4) 24 (Int32.toNatClampNeg (gI (uA (uA (uA (uA σ 20 (Int32.toNatClampNeg (gI σ 20)) a1) 21 (Int32.toNatClampNeg (gI (uA σ 20 (Int32.toNatClampNeg (gI σ 20)) a1) 20)) a2) 22 (Int32.toNatClampNeg (gI (uA (uA σ 20 (Int32.toNatClampNeg (gI σ 20)) a1) 21 (Int32.toNatClampNeg (gI (uA σ 20 (Int32.toNatClampNeg (gI σ 20)) a1) 20)) a2) 20)) a3) 23 (Int32.toNatClampNeg (gI (uA (uA (uA σ 20 (Int32.toNatClampNeg (gI σ 20)) a1) 21 (Int32.toNatClampNeg (gI (uA σ 20 (Int32.toNatClampNeg (gI σ 20)) a1) 20)) a2) 22 (Int32.toNatClampNeg (gI (uA (uA σ 20 (Int32.toNatClampNeg (gI σ 20)) a1) 21 (Int32.toNatClampNeg (gI (uA σ 20 (Int32.toNatClampNeg (gI σ 20)) a1) 20)) a2) 20)) a3) 20)) a4) 20)) (0 : Int32)) 20)) (0 : Int32)) 20)) (-1 : Int32)) 20 ((gI (uA (uA (uA (uA (uA (uA (uA σ 20 (Int32.toNatClampNeg (gI σ 20)) a1) 21 (Int32.toNatClampNeg (gI (uA σ 20 (Int32.toNatClampNeg (gI σ 20)) a1) 20)) a2) 22 (Int32.toNatClampNeg (gI (uA (uA σ 20 (Int32.toNatClampNeg (gI σ 20)) a1) 21 (Int32.toNatClampNeg (gI (uA σ 20 (Int32.toNatClampNeg (gI σ 20)) a1) 20)) a2) 20)) a3) 23 (Int32.toNatClampNeg (gI (uA (uA (uA σ 20 (Int32.toNatClampNeg (gI σ 20)) a1) 21 (Int32.toNatClampNeg (gI (uA σ 20 (Int32.toNatClampNeg (gI σ 20)) a1) 20)) a2) 22 (Int32.toNatClampNeg (gI (uA (uA σ 20 (Int32.toNatClampNeg (gI σ 20)) a1) 21 (Int32.toNatClampNeg (gI (uA σ 20 (Int32.toNatClampNeg (gI σ 20)) a1) 20)) a2) 20)) a3) 20)) a4) 24 (Int32.toNatClampNeg (gI (uA (uA (uA (uA σ 20 (Int32.toNatClampNeg (gI σ 20)) a1) 21 (Int32.toNatClampNeg (gI (uA σ 20 (Int32.toNatClampNeg (gI σ 20)) a1) 20)) a2) 22 (Int32.toNatClampNeg (gI (uA (uA σ 20 (Int32.toNatClampNeg (gI σ 20)) a1) 21 (Int32.toNatClampNeg (gI (uA σ 20 (Int32.toNatClampNeg (gI σ 20)) a1) 20)) a2) 20)) a3) 23 (Int32.toNatClampNeg (gI (uA (uA (uA σ 20 (Int32.toNatClampNeg (gI σ 20)) a1) 21 (Int32.toNatClampNeg (gI (uA σ 20 (Int32.toNatClampNeg (gI σ 20)) a1) 20)) a2) 22 (Int32.toNatClampNeg (gI (uA (uA σ 20 (Int32.toNatClampNeg (gI σ 20)) a1) 21 (Int32.toNatClampNeg (gI (uA σ 20 (Int32.toNatClampNeg (gI σ 20)) a1) 20)) a2) 20)) a3) 20)) a4) 20)) (0 : Int32)) 25 (Int32.toNatClampNeg (gI (uA (uA (uA (uA (uA σ 20 (Int32.toNatClampNeg (gI σ 20)) a1) 21 (Int32.toNatClampNeg (gI (uA σ 20 (Int32.toNatClampNeg (gI σ 20)) a1) 20)) a2) 22 (Int32.toNatClampNeg (gI (uA (uA σ 20 (Int32.toNatClampNeg (gI σ 20)) a1) 21 (Int32.toNatClampNeg (gI (uA σ 20 (Int32.toNatClampNeg (gI σ 20)) a1) 20)) a2) 20)) a3) 23 (Int32.toNatClampNeg (gI (uA (uA (uA σ 20 (Int32.toNatClampNeg (gI σ 20)) a1) 21 (Int32.toNatClampNeg (gI (uA σ 20 (Int32.toNatClampNeg (gI σ 20)) a1) 20)) a2) 22 (Int32.toNatClampNeg (gI (uA (uA σ 20 (Int32.toNatClampNeg (gI σ 20)) a1) 21 (Int32.toNatClampNeg (gI (uA σ 20 (Int32.toNatClampNeg (gI σ 20)) a1) 20)) a2) 20)) a3) 20)) a4) 24 (Int32.toNatClampNeg (gI (uA (uA (uA (uA σ 20 (Int32.toNatClampNeg (gI σ 20)) a1) 21 (Int32.toNatClampNeg (gI (uA σ 20 (Int32.toNatClampNeg (gI σ 20)) a1) 20)) a2) 22 (Int32.toNatClampNeg (gI (uA (uA σ 20 (Int32.toNatClampNeg (gI σ 20)) a1) 21 (Int32.toNatClampNeg (gI (uA σ 20 (Int32.toNatClampNeg (gI σ 20)) a1) 20)) a2) 20)) a3) 23 (Int32.toNatClampNeg (gI (uA (uA (uA σ 20 (Int32.toNatClampNeg (gI σ 20)) a1) 21 (Int32.toNatClampNeg (gI (uA σ 20 (Int32.toNatClampNeg (gI σ 20)) a1) 20)) a2) 22 (Int32.toNatClampNeg (gI (uA (uA σ 20 (Int32.toNatClampNeg (gI σ 20)) a1) 21 (Int32.toNatClampNeg (gI (uA σ 20 (Int32.toNatClampNeg (gI σ 20)) a1) 20)) a2) 20)) a3) 20)) a4) 20)) (0 : Int32)) 20)) (0 : Int32)) 26 (Int32.toNatClampNeg (gI (uA (uA (uA (uA (uA (uA σ 20 (Int32.toNatClampNeg (gI σ 20)) a1) 21 (Int32.toNatClampNeg (gI (uA σ 20 (Int32.toNatClampNeg (gI σ 20)) a1) 20)) a2) 22 (Int32.toNatClampNeg (gI (uA (uA σ 20 (Int32.toNatClampNeg (gI σ 20)) a1) 21 (Int32.toNatClampNeg (gI (uA σ 20 (Int32.toNatClampNeg (gI σ 20)) a1) 20)) a2) 20)) a3) 23 (Int32.toNatClampNeg (gI (uA (uA (uA σ 20 (Int32.toNatClampNeg (gI σ 20)) a1) 21 (Int32.toNatClampNeg (gI (uA σ 20 (Int32.toNatClampNeg (gI σ 20)) a1) 20)) a2) 22 (Int32.toNatClampNeg (gI (uA (uA σ 20 (Int32.toNatClampNeg (gI σ 20)) a1) 21 (Int32.toNatClampNeg (gI (uA σ 20 (Int32.toNatClampNeg (gI σ 20)) a1) 20)) a2) 20)) a3) 20)) a4) 24 (Int32.toNatClampNeg (gI (uA (uA (uA (uA σ 20 (Int32.toNatClampNeg (gI σ 20)) a1) 21 (Int32.toNatClampNeg (gI (uA σ 20 (Int32.toNatClampNeg (gI σ 20)) a1) 20)) a2) 22 (Int32.toNatClampNeg (gI (uA (uA σ 20 (Int32.toNatClampNeg (gI σ 20)) a1) 21 (Int32.toNatClampNeg (gI (uA σ 20 (Int32.toNatClampNeg (gI σ 20)) a1) 20)) a2) 20)) a3) 23 (Int32.toNatClampNeg (gI (uA (uA (uA σ 20 (Int32.toNatClampNeg (gI σ 20)) a1) 21 (Int32.toNatClampNeg (gI (uA σ 20 (Int32.toNatClampNeg (gI σ 20)) a1) 20)) a2) 22 (Int32.toNatClampNeg (gI (uA (uA σ 20 (Int32.toNatClampNeg (gI σ 20)) a1) 21 (Int32.toNatClampNeg (gI (uA σ 20 (Int32.toNatClampNeg (gI σ 20)) a1) 20)) a2) 20)) a3) 20)) a4) 20)) (0 : Int32)) 25 (Int32.toNatClampNeg (gI (uA (uA (uA (uA (uA σ 20 (Int32.toNatClampNeg (gI σ 20)) a1) 21 (Int32.toNatClampNeg (gI (uA σ 20 (Int32.toNatClampNeg (gI σ 20)) a1) 20)) a2) 22 (Int32.toNatClampNeg (gI (uA (uA σ 20 (Int32.toNatClampNeg (gI σ 20)) a1) 21 (Int32.toNatClampNeg (gI (uA σ 20 (Int32.toNatClampNeg (gI σ 20)) a1) 20)) a2) 20)) a3) 23 (Int32.toNatClampNeg (gI (uA (uA (uA σ 20 (Int32.toNatClampNeg (gI σ 20)) a1) 21 (Int32.toNatClampNeg (gI (uA σ 20 (Int32.toNatClampNeg (gI σ 20)) a1) 20)) a2) 22 (Int32.toNatClampNeg (gI (uA (uA σ 20 (Int32.toNatClampNeg (gI σ 20)) a1) 21 (Int32.toNatClampNeg (gI (uA σ 20 (Int32.toNatClampNeg (gI σ 20)) a1) 20)) a2) 20)) a3) 20)) a4) 24 (Int32.toNatClampNeg (gI (uA (uA (uA (uA σ 20 (Int32.toNatClampNeg (gI σ 20)) a1) 21 (Int32.toNatClampNeg (gI (uA σ 20 (Int32.toNatClampNeg (gI σ 20)) a1) 20)) a2) 22 (Int32.toNatClampNeg (gI (uA (uA σ 20 (Int32.toNatClampNeg (gI σ 20)) a1) 21 (Int32.toNatClampNeg (gI (uA σ 20 (Int32.toNatClampNeg (gI σ 20)) a1) 20)) a2) 20)) a3) 23 (Int32.toNatClampNeg (gI (uA (uA (uA σ 20 (Int32.toNatClampNeg (gI σ 20)) a1) 21 (Int32.toNatClampNeg (gI (uA σ 20 (Int32.toNatClampNeg (gI σ 20)) a1) 20)) a2) 22 (Int32.toNatClampNeg (gI (uA (uA σ 20 (Int32.toNatClampNeg (gI σ 20)) a1) 21 (Int32.toNatClampNeg (gI (uA σ 20 (Int32.toNatClampNeg (gI σ 20)) a1) 20)) a2) 20)) a3) 20)) a4) 20)) (0 : Int32)) 20)) (0 : Int32)) 20)) (-1 : Int32)) 20) + (1 : Int32)))))
set_option maxHeartbeats 4000000 in
set_option maxRecDepth 100000 in
theorem bf10_row_F {X : CX} {Λ : LY} (C : OK X Λ cX10_row 6 RX10 2 42) {res : Int32 × St} (E : EN X Λ (some .int) (some (.int res.1)) res.2) (σ : St) (a1 : Int32) (a2 : Int32) (a3 : Int32) (a4 : Int32) (a5 : Int32) (hx : vp_in (gI σ 20) 10) (hres : (f10_row_F σ a1 a2 a3 a4 a5) = res) : VV X Λ 6 111 [(0, .ref (adr Λ 37)), (1, .int (a1)), (2, .int (a2)), (3, .int (a3)), (4, .int (a4)), (5, .int (a5))] [] σ := by
  unfold f10_row_F at hres
  refine v_aload_n (pc2 := 112) C 0 dX10_row_111 rfl rfl ?_
  refine vg_X10_kindOf (pc2 := 115) C lf_X10_9 dX10_row_112 rfl ?_
  refine v_aload_n (pc2 := 116) C 0 dX10_row_115 rfl rfl ?_
  refine vg_X10_rows (pc2 := 119) C lf_X10_72 dX10_row_116 rfl ?_
  refine v_iload_n (pc2 := 120) C 1 dX10_row_119 rfl rfl ?_
  refine as38 (pc2 := 121) C hx dX10_row_120 rfl ?_
  refine v_aload_n (pc2 := 122) C 0 dX10_row_121 rfl rfl ?_
  refine vg_X10_placeOf (pc2 := 125) C lf_X10_13 dX10_row_122 rfl ?_
  refine v_aload_n (pc2 := 126) C 0 dX10_row_125 rfl rfl ?_
  refine vg_X10_rows (pc2 := 129) C lf_X10_72 dX10_row_126 rfl ?_
  refine v_iload_n (pc2 := 130) C 2 dX10_row_129 rfl rfl ?_
  refine as39 (pc2 := 131) C hx dX10_row_130 rfl ?_
  refine v_aload_n (pc2 := 132) C 0 dX10_row_131 rfl rfl ?_
  refine vg_X10_heightOf (pc2 := 135) C lf_X10_16 dX10_row_132 rfl ?_
  refine v_aload_n (pc2 := 136) C 0 dX10_row_135 rfl rfl ?_
  refine vg_X10_rows (pc2 := 139) C lf_X10_72 dX10_row_136 rfl ?_
  refine v_iload_n (pc2 := 140) C 3 dX10_row_139 rfl rfl ?_
  refine as40 (pc2 := 141) C hx dX10_row_140 rfl ?_
  refine v_aload_n (pc2 := 142) C 0 dX10_row_141 rfl rfl ?_
  refine vg_X10_widthOf (pc2 := 145) C lf_X10_19 dX10_row_142 rfl ?_
  refine v_aload_n (pc2 := 146) C 0 dX10_row_145 rfl rfl ?_
  refine vg_X10_rows (pc2 := 149) C lf_X10_72 dX10_row_146 rfl ?_
  refine v_iload (pc2 := 151) C 4 dX10_row_149 rfl rfl ?_
  refine as41 (pc2 := 152) C hx dX10_row_151 rfl ?_
  refine v_aload_n (pc2 := 153) C 0 dX10_row_152 rfl rfl ?_
  refine vg_X10_dustOf (pc2 := 156) C lf_X10_22 dX10_row_153 rfl ?_
  refine v_aload_n (pc2 := 157) C 0 dX10_row_156 rfl rfl ?_
  refine vg_X10_rows (pc2 := 160) C lf_X10_72 dX10_row_157 rfl ?_
  refine v_iconst (pc2 := 161) C dX10_row_160 ki_0 rfl ?_
  refine as42 (pc2 := 162) C hx dX10_row_161 rfl ?_
  refine v_aload_n (pc2 := 163) C 0 dX10_row_162 rfl rfl ?_
  refine vg_X10_stepOf (pc2 := 166) C lf_X10_25 dX10_row_163 rfl ?_
  refine v_aload_n (pc2 := 167) C 0 dX10_row_166 rfl rfl ?_
  refine vg_X10_rows (pc2 := 170) C lf_X10_72 dX10_row_167 rfl ?_
  refine v_iload_n (pc2 := 171) C 1 dX10_row_170 rfl rfl ?_
  refine v_iconst (pc2 := 172) C dX10_row_171 ki_1 rfl ?_
  refine v_icmpne (pc2 := 180) (pc3 := 175) C dX10_row_172 rfl rfl (fun h172 => ?_) (fun h172 => ?_)
  · have hres := (if_neg h172).symm.trans hres
    refine v_iconst (pc2 := 181) C dX10_row_180 ki_0 rfl ?_
    refine as43 (pc2 := 182) C hx dX10_row_181 rfl ?_
    refine v_aload_n (pc2 := 183) C 0 dX10_row_182 rfl rfl ?_
    refine vg_X10_stringOf (pc2 := 186) C lf_X10_28 dX10_row_183 rfl ?_
    refine v_aload_n (pc2 := 187) C 0 dX10_row_186 rfl rfl ?_
    refine vg_X10_rows (pc2 := 190) C lf_X10_72 dX10_row_187 rfl ?_
    refine v_iconst (pc2 := 191) C dX10_row_190 ki_m1 rfl ?_
    refine as44 (pc2 := 192) C hx dX10_row_191 rfl ?_
    refine v_aload_n (pc2 := 193) C 0 dX10_row_192 rfl rfl ?_
    refine v_dup (pc2 := 194) C dX10_row_193 rfl rfl ?_
    refine vg_X10_rows (pc2 := 197) C lf_X10_72 dX10_row_194 rfl ?_
    refine v_iconst (pc2 := 198) C dX10_row_197 ki_1 rfl ?_
    refine v_iadd (pc2 := 199) C dX10_row_198 rfl ?_
    refine vp_X10_rows (pc2 := 202) C lf_X10_72 dX10_row_199 rfl ?_
    refine v_aload_n (pc2 := 203) C 0 dX10_row_202 rfl rfl ?_
    refine vg_X10_rows (pc2 := 206) C lf_X10_72 dX10_row_203 rfl ?_
    refine v_iconst (pc2 := 207) C dX10_row_206 ki_1 rfl ?_
    refine v_isub (pc2 := 208) C dX10_row_207 rfl ?_
    exact r_iS C E hres dX10_row_208
  · have hres := (if_pos h172).symm.trans hres
    refine v_iload (pc2 := 177) C 5 dX10_row_175 rfl rfl ?_
    refine v_goto (pc2 := 181) C dX10_row_177 rfl ?_
    refine as43 (pc2 := 182) C hx dX10_row_181 rfl ?_
    refine v_aload_n (pc2 := 183) C 0 dX10_row_182 rfl rfl ?_
    refine vg_X10_stringOf (pc2 := 186) C lf_X10_28 dX10_row_183 rfl ?_
    refine v_aload_n (pc2 := 187) C 0 dX10_row_186 rfl rfl ?_
    refine vg_X10_rows (pc2 := 190) C lf_X10_72 dX10_row_187 rfl ?_
    refine v_iconst (pc2 := 191) C dX10_row_190 ki_m1 rfl ?_
    refine as44 (pc2 := 192) C hx dX10_row_191 rfl ?_
    refine v_aload_n (pc2 := 193) C 0 dX10_row_192 rfl rfl ?_
    refine v_dup (pc2 := 194) C dX10_row_193 rfl rfl ?_
    refine vg_X10_rows (pc2 := 197) C lf_X10_72 dX10_row_194 rfl ?_
    refine v_iconst (pc2 := 198) C dX10_row_197 ki_1 rfl ?_
    refine v_iadd (pc2 := 199) C dX10_row_198 rfl ?_
    refine vp_X10_rows (pc2 := 202) C lf_X10_72 dX10_row_199 rfl ?_
    refine v_aload_n (pc2 := 203) C 0 dX10_row_202 rfl rfl ?_
    refine vg_X10_rows (pc2 := 206) C lf_X10_72 dX10_row_203 rfl ?_
    refine v_iconst (pc2 := 207) C dX10_row_206 ki_1 rfl ?_
    refine v_isub (pc2 := 208) C dX10_row_207 rfl ?_
    exact r_iS C E hres dX10_row_208
def f10_row_D (σ : St) (a1 : Int32) (a2 : Int32) (a3 : Int32) (a4 : Int32) (a5 : Int32) : Int32 × St :=
  (if (gI σ 20) = (10 : Int32) then (((f10_finding σ (-1000000004 : Int32)).1), ((f10_finding σ (-1000000004 : Int32)).2)) else (f10_row_F σ a1 a2 a3 a4 a5))
set_option maxHeartbeats 4000000 in
set_option maxRecDepth 100000 in
theorem bf10_row_D {X : CX} {Λ : LY} (C : OK X Λ cX10_row 6 RX10 2 42) {res : Int32 × St} (E : EN X Λ (some .int) (some (.int res.1)) res.2) (σ : St) (a1 : Int32) (a2 : Int32) (a3 : Int32) (a4 : Int32) (a5 : Int32) (hs : Safe σ) (hres : (f10_row_D σ a1 a2 a3 a4 a5) = res) : VV X Λ 6 95 [(0, .ref (adr Λ 37)), (1, .int (a1)), (2, .int (a2)), (3, .int (a3)), (4, .int (a4)), (5, .int (a5))] [] σ := by
  unfold f10_row_D at hres
  refine v_aload_n (pc2 := 96) C 0 dX10_row_95 rfl rfl ?_
  refine vg_X10_rows (pc2 := 99) C lf_X10_72 dX10_row_96 rfl ?_
  refine v_bipush (pc2 := 101) C dX10_row_99 kb_10 rfl ?_
  refine v_icmpne (pc2 := 111) (pc3 := 104) C dX10_row_101 rfl rfl (fun h101 => ?_) (fun h101 => ?_)
  · have hres := (if_neg h101).symm.trans hres
    exact v_lv [0, 1, 2, 3, 4, 5] rfl (bf10_row_F C E _ _ _ _ _ _ (vin hs.mrw.1 (by have := hs.mrw.2; have := t_neq h101 rfl lit_10; omega))  hres)
  · have hres := (if_pos h101).symm.trans hres
    refine v_aload_n (pc2 := 105) C 0 dX10_row_104 rfl rfl ?_
    refine v_ldc (pc2 := 107) C lc_X10_125 dX10_row_105 rfl ?_
    refine v_cVi (pc2 := 110) C kc_X10_120 (mX10_finding (xl X) Λ _ _ am4) (wd37 Λ _) rfl (by decide) rfl rfl (Nat.le_of_ble_eq_true rfl) dX10_row_107 rfl ?_
    exact r_iS C E hres dX10_row_110
def f10_row_B (σ : St) (a1 : Int32) (a2 : Int32) (a3 : Int32) (a4 : Int32) (a5 : Int32) : Int32 × St :=
  (if (gI σ 20) ≤ (0 : Int32) then (f10_row_D σ a1 a2 a3 a4 a5) else (if (gA σ 21 (Int32.toNatClampNeg ((gI σ 20) - (1 : Int32)))) < a2 then (f10_row_D σ a1 a2 a3 a4 a5) else (((f10_finding σ (-1000000005 : Int32)).1), ((f10_finding σ (-1000000005 : Int32)).2))))
set_option maxHeartbeats 4000000 in
set_option maxRecDepth 100000 in
theorem bf10_row_B {X : CX} {Λ : LY} (C : OK X Λ cX10_row 6 RX10 2 42) {res : Int32 × St} (E : EN X Λ (some .int) (some (.int res.1)) res.2) (σ : St) (a1 : Int32) (a2 : Int32) (a3 : Int32) (a4 : Int32) (a5 : Int32) (hs : Safe σ) (hres : (f10_row_B σ a1 a2 a3 a4 a5) = res) : VV X Λ 6 66 [(0, .ref (adr Λ 37)), (1, .int (a1)), (2, .int (a2)), (3, .int (a3)), (4, .int (a4)), (5, .int (a5))] [] σ := by
  unfold f10_row_B at hres
  refine v_aload_n (pc2 := 67) C 0 dX10_row_66 rfl rfl ?_
  refine vg_X10_rows (pc2 := 70) C lf_X10_72 dX10_row_67 rfl ?_
  refine v_ifle (pc2 := 95) (pc3 := 73) C dX10_row_70 rfl rfl (fun h70 => ?_) (fun h70 => ?_)
  · have hres := (if_pos h70).symm.trans hres
    exact v_lv [0, 1, 2, 3, 4, 5] rfl (bf10_row_D C E _ _ _ _ _ _ hs  hres)
  · have hres := (if_neg h70).symm.trans hres
    refine v_iload_n (pc2 := 74) C 2 dX10_row_73 rfl rfl ?_
    refine v_aload_n (pc2 := 75) C 0 dX10_row_74 rfl rfl ?_
    refine vg_X10_placeOf (pc2 := 78) C lf_X10_13 dX10_row_75 rfl ?_
    refine v_aload_n (pc2 := 79) C 0 dX10_row_78 rfl rfl ?_
    refine vg_X10_rows (pc2 := 82) C lf_X10_72 dX10_row_79 rfl ?_
    refine v_iconst (pc2 := 83) C dX10_row_82 ki_1 rfl ?_
    refine v_isub (pc2 := 84) C dX10_row_83 rfl ?_
    refine al39 (pc2 := 85) C (pred_in (t_nle h70 rfl lit_0) hs.mrw.2) dX10_row_84 rfl ?_
    refine v_icmpgt (pc2 := 95) (pc3 := 88) C dX10_row_85 rfl rfl (fun h85 => ?_) (fun h85 => ?_)
    · have hres := (if_pos h85).symm.trans hres
      exact v_lv [0, 1, 2, 3, 4, 5] rfl (bf10_row_D C E _ _ _ _ _ _ hs  hres)
    · have hres := (if_neg h85).symm.trans hres
      refine v_aload_n (pc2 := 89) C 0 dX10_row_88 rfl rfl ?_
      refine v_ldc (pc2 := 91) C lc_X10_124 dX10_row_89 rfl ?_
      refine v_cVi (pc2 := 94) C kc_X10_120 (mX10_finding (xl X) Λ _ _ am5) (wd37 Λ _) rfl (by decide) rfl rfl (Nat.le_of_ble_eq_true rfl) dX10_row_91 rfl ?_
      exact r_iS C E hres dX10_row_94
def f10_row (σ : St) (a1 : Int32) (a2 : Int32) (a3 : Int32) (a4 : Int32) (a5 : Int32) : Int32 × St :=
  (if (f10_in a1 (0 : Int32) (2 : Int32)) = (0 : Int32) then (((f10_finding σ (-1000000001 : Int32)).1), ((f10_finding σ (-1000000001 : Int32)).2)) else (if (f10_in a3 (-1000 : Int32) (1000 : Int32)) = (0 : Int32) then (((f10_finding σ (-1000000001 : Int32)).1), ((f10_finding σ (-1000000001 : Int32)).2)) else (if (f10_in a4 (10 : Int32) (400 : Int32)) = (0 : Int32) then (((f10_finding σ (-1000000001 : Int32)).1), ((f10_finding σ (-1000000001 : Int32)).2)) else (if a1 = (1 : Int32) then (if (f10_isStep a5) = (0 : Int32) then (((f10_finding σ (-1000000001 : Int32)).1), ((f10_finding σ (-1000000001 : Int32)).2)) else (if (f10_in a2 (0 : Int32) (10000 : Int32)) = (0 : Int32) then (((f10_finding σ (-1000000001 : Int32)).1), ((f10_finding σ (-1000000001 : Int32)).2)) else (f10_row_B σ a1 a2 a3 a4 a5))) else (if (f10_in a2 (0 : Int32) (10000 : Int32)) = (0 : Int32) then (((f10_finding σ (-1000000001 : Int32)).1), ((f10_finding σ (-1000000001 : Int32)).2)) else (f10_row_B σ a1 a2 a3 a4 a5))))))
set_option maxHeartbeats 4000000 in
set_option maxRecDepth 100000 in
theorem bf10_row {X : CX} {Λ : LY} (C : OK X Λ cX10_row 6 RX10 2 42) {res : Int32 × St} (E : EN X Λ (some .int) (some (.int res.1)) res.2) (σ : St) (a1 : Int32) (a2 : Int32) (a3 : Int32) (a4 : Int32) (a5 : Int32) (hs : Safe σ) (hres : (f10_row σ a1 a2 a3 a4 a5) = res) : VV X Λ 6 0 [(0, .ref (adr Λ 37)), (1, .int (a1)), (2, .int (a2)), (3, .int (a3)), (4, .int (a4)), (5, .int (a5))] [] σ := by
  unfold f10_row at hres
  refine v_iload_n (pc2 := 1) C 1 dX10_row_0 rfl rfl ?_
  refine v_iconst (pc2 := 2) C dX10_row_1 ki_0 rfl ?_
  refine v_iconst (pc2 := 3) C dX10_row_2 ki_2 rfl ?_
  refine v_cSi (pc2 := 6) C kc_X10_75 (mX10_in (xl X) Λ _ _ _ _) (by decide) rfl rfl (Nat.le_of_ble_eq_true rfl) dX10_row_3 rfl ?_
  refine v_ifeq (pc2 := 59) (pc3 := 9) C dX10_row_6 rfl rfl (fun h6 => ?_) (fun h6 => ?_)
  · have hres := (if_pos h6).symm.trans hres
    refine v_aload_n (pc2 := 60) C 0 dX10_row_59 rfl rfl ?_
    refine v_ldc (pc2 := 62) C lc_X10_119 dX10_row_60 rfl ?_
    refine v_cVi (pc2 := 65) C kc_X10_120 (mX10_finding (xl X) Λ _ _ am1) (wd37 Λ _) rfl (by decide) rfl rfl (Nat.le_of_ble_eq_true rfl) dX10_row_62 rfl ?_
    exact r_iS C E hres dX10_row_65
  · have hres := (if_neg h6).symm.trans hres
    refine v_iload_n (pc2 := 10) C 3 dX10_row_9 rfl rfl ?_
    refine v_sipush (pc2 := 13) C dX10_row_10 ks_m1000 rfl ?_
    refine v_sipush (pc2 := 16) C dX10_row_13 ks_1000 rfl ?_
    refine v_cSi (pc2 := 19) C kc_X10_75 (mX10_in (xl X) Λ _ _ _ _) (by decide) rfl rfl (Nat.le_of_ble_eq_true rfl) dX10_row_16 rfl ?_
    refine v_ifeq (pc2 := 59) (pc3 := 22) C dX10_row_19 rfl rfl (fun h19 => ?_) (fun h19 => ?_)
    · have hres := (if_pos h19).symm.trans hres
      refine v_aload_n (pc2 := 60) C 0 dX10_row_59 rfl rfl ?_
      refine v_ldc (pc2 := 62) C lc_X10_119 dX10_row_60 rfl ?_
      refine v_cVi (pc2 := 65) C kc_X10_120 (mX10_finding (xl X) Λ _ _ am1) (wd37 Λ _) rfl (by decide) rfl rfl (Nat.le_of_ble_eq_true rfl) dX10_row_62 rfl ?_
      exact r_iS C E hres dX10_row_65
    · have hres := (if_neg h19).symm.trans hres
      refine v_iload (pc2 := 24) C 4 dX10_row_22 rfl rfl ?_
      refine v_bipush (pc2 := 26) C dX10_row_24 kb_10 rfl ?_
      refine v_sipush (pc2 := 29) C dX10_row_26 ks_400 rfl ?_
      refine v_cSi (pc2 := 32) C kc_X10_75 (mX10_in (xl X) Λ _ _ _ _) (by decide) rfl rfl (Nat.le_of_ble_eq_true rfl) dX10_row_29 rfl ?_
      refine v_ifeq (pc2 := 59) (pc3 := 35) C dX10_row_32 rfl rfl (fun h32 => ?_) (fun h32 => ?_)
      · have hres := (if_pos h32).symm.trans hres
        refine v_aload_n (pc2 := 60) C 0 dX10_row_59 rfl rfl ?_
        refine v_ldc (pc2 := 62) C lc_X10_119 dX10_row_60 rfl ?_
        refine v_cVi (pc2 := 65) C kc_X10_120 (mX10_finding (xl X) Λ _ _ am1) (wd37 Λ _) rfl (by decide) rfl rfl (Nat.le_of_ble_eq_true rfl) dX10_row_62 rfl ?_
        exact r_iS C E hres dX10_row_65
      · have hres := (if_neg h32).symm.trans hres
        refine v_iload_n (pc2 := 36) C 1 dX10_row_35 rfl rfl ?_
        refine v_iconst (pc2 := 37) C dX10_row_36 ki_1 rfl ?_
        refine v_icmpne (pc2 := 48) (pc3 := 40) C dX10_row_37 rfl rfl (fun h37 => ?_) (fun h37 => ?_)
        · have hres := (if_neg h37).symm.trans hres
          refine v_iload_n (pc2 := 49) C 2 dX10_row_48 rfl rfl ?_
          refine v_iconst (pc2 := 50) C dX10_row_49 ki_0 rfl ?_
          refine v_sipush (pc2 := 53) C dX10_row_50 ks_10000 rfl ?_
          refine v_cSi (pc2 := 56) C kc_X10_75 (mX10_in (xl X) Λ _ _ _ _) (by decide) rfl rfl (Nat.le_of_ble_eq_true rfl) dX10_row_53 rfl ?_
          refine v_ifne (pc2 := 66) (pc3 := 59) C dX10_row_56 rfl rfl (fun h56 => ?_) (fun h56 => ?_)
          · have hres := (if_neg h56).symm.trans hres
            exact v_lv [0, 1, 2, 3, 4, 5] rfl (bf10_row_B C E _ _ _ _ _ _ hs  hres)
          · have hres := (if_pos h56).symm.trans hres
            refine v_aload_n (pc2 := 60) C 0 dX10_row_59 rfl rfl ?_
            refine v_ldc (pc2 := 62) C lc_X10_119 dX10_row_60 rfl ?_
            refine v_cVi (pc2 := 65) C kc_X10_120 (mX10_finding (xl X) Λ _ _ am1) (wd37 Λ _) rfl (by decide) rfl rfl (Nat.le_of_ble_eq_true rfl) dX10_row_62 rfl ?_
            exact r_iS C E hres dX10_row_65
        · have hres := (if_pos h37).symm.trans hres
          refine v_iload (pc2 := 42) C 5 dX10_row_40 rfl rfl ?_
          refine v_cSi (pc2 := 45) C kc_X10_115 (mX10_isStep (xl X) Λ _ _) (by decide) rfl rfl (Nat.le_of_ble_eq_true rfl) dX10_row_42 rfl ?_
          refine v_ifeq (pc2 := 59) (pc3 := 48) C dX10_row_45 rfl rfl (fun h45 => ?_) (fun h45 => ?_)
          · have hres := (if_pos h45).symm.trans hres
            refine v_aload_n (pc2 := 60) C 0 dX10_row_59 rfl rfl ?_
            refine v_ldc (pc2 := 62) C lc_X10_119 dX10_row_60 rfl ?_
            refine v_cVi (pc2 := 65) C kc_X10_120 (mX10_finding (xl X) Λ _ _ am1) (wd37 Λ _) rfl (by decide) rfl rfl (Nat.le_of_ble_eq_true rfl) dX10_row_62 rfl ?_
            exact r_iS C E hres dX10_row_65
          · have hres := (if_neg h45).symm.trans hres
            refine v_iload_n (pc2 := 49) C 2 dX10_row_48 rfl rfl ?_
            refine v_iconst (pc2 := 50) C dX10_row_49 ki_0 rfl ?_
            refine v_sipush (pc2 := 53) C dX10_row_50 ks_10000 rfl ?_
            refine v_cSi (pc2 := 56) C kc_X10_75 (mX10_in (xl X) Λ _ _ _ _) (by decide) rfl rfl (Nat.le_of_ble_eq_true rfl) dX10_row_53 rfl ?_
            refine v_ifne (pc2 := 66) (pc3 := 59) C dX10_row_56 rfl rfl (fun h56 => ?_) (fun h56 => ?_)
            · have hres := (if_neg h56).symm.trans hres
              exact v_lv [0, 1, 2, 3, 4, 5] rfl (bf10_row_B C E _ _ _ _ _ _ hs  hres)
            · have hres := (if_pos h56).symm.trans hres
              refine v_aload_n (pc2 := 60) C 0 dX10_row_59 rfl rfl ?_
              refine v_ldc (pc2 := 62) C lc_X10_119 dX10_row_60 rfl ?_
              refine v_cVi (pc2 := 65) C kc_X10_120 (mX10_finding (xl X) Λ _ _ am1) (wd37 Λ _) rfl (by decide) rfl rfl (Nat.le_of_ble_eq_true rfl) dX10_row_62 rfl ?_
              exact r_iS C E hres dX10_row_65
theorem mX10_row (l : Launch) (Λ : LY) (σ : St) (a1 : Int32) (a2 : Int32) (a3 : Int32) (a4 : Int32) (a5 : Int32) (hs : Safe σ) : CT l Λ yX10_row cX10_row 6 (some .int) 2 42 [.ref (adr Λ 37), .int (a1), .int (a2), .int (a3), .int (a4), .int (a5)] σ (some (.int (f10_row σ a1 a2 a3 a4 a5).1)) (f10_row σ a1 a2 a3 a4 a5).2 := by
  refine CT_of (by decide +kernel) (Nat.le_of_ble_eq_true rfl) ?_
  intro X hX C E
  obtain ⟨res, hres⟩ : ∃ r, (f10_row σ a1 a2 a3 a4 a5) = r := ⟨_, rfl⟩
  rw [hres] at E
  exact bf10_row C E _ _ _ _ _ _  hs hres
def f10_drop (σ : St) : Int32 × St :=
  (if (gI σ 20) = (0 : Int32) then (((f10_finding σ (-1000000002 : Int32)).1), ((f10_finding σ (-1000000002 : Int32)).2)) else ((gI (uI σ 20 ((gI σ 20) - (1 : Int32))) 20), (uI σ 20 ((gI σ 20) - (1 : Int32)))))
set_option maxHeartbeats 4000000 in
set_option maxRecDepth 100000 in
theorem bf10_drop {X : CX} {Λ : LY} (C : OK X Λ cX10_drop 1 RX10 1 21) {res : Int32 × St} (E : EN X Λ (some .int) (some (.int res.1)) res.2) (σ : St)  (hres : (f10_drop σ) = res) : VV X Λ 1 0 [(0, .ref (adr Λ 37))] [] σ := by
  unfold f10_drop at hres
  refine v_aload_n (pc2 := 1) C 0 dX10_drop_0 rfl rfl ?_
  refine vg_X10_rows (pc2 := 4) C lf_X10_72 dX10_drop_1 rfl ?_
  refine v_ifne (pc2 := 14) (pc3 := 7) C dX10_drop_4 rfl rfl (fun h4 => ?_) (fun h4 => ?_)
  · have hres := (if_neg h4).symm.trans hres
    refine v_aload_n (pc2 := 15) C 0 dX10_drop_14 rfl rfl ?_
    refine v_dup (pc2 := 16) C dX10_drop_15 rfl rfl ?_
    refine vg_X10_rows (pc2 := 19) C lf_X10_72 dX10_drop_16 rfl ?_
    refine v_iconst (pc2 := 20) C dX10_drop_19 ki_1 rfl ?_
    refine v_isub (pc2 := 21) C dX10_drop_20 rfl ?_
    refine vp_X10_rows (pc2 := 24) C lf_X10_72 dX10_drop_21 rfl ?_
    refine v_aload_n (pc2 := 25) C 0 dX10_drop_24 rfl rfl ?_
    refine vg_X10_rows (pc2 := 28) C lf_X10_72 dX10_drop_25 rfl ?_
    exact r_iS C E hres dX10_drop_28
  · have hres := (if_pos h4).symm.trans hres
    refine v_aload_n (pc2 := 8) C 0 dX10_drop_7 rfl rfl ?_
    refine v_ldc (pc2 := 10) C lc_X10_126 dX10_drop_8 rfl ?_
    refine v_cVi (pc2 := 13) C kc_X10_120 (mX10_finding (xl X) Λ _ _ am2) (wd37 Λ _) rfl (by decide) rfl rfl (Nat.le_of_ble_eq_true rfl) dX10_drop_10 rfl ?_
    exact r_iS C E hres dX10_drop_13
theorem mX10_drop (l : Launch) (Λ : LY) (σ : St)  : CT l Λ yX10_drop cX10_drop 1 (some .int) 1 21 [.ref (adr Λ 37)] σ (some (.int (f10_drop σ).1)) (f10_drop σ).2 := by
  refine CT_of (by decide +kernel) (Nat.le_of_ble_eq_true rfl) ?_
  intro X hX C E
  obtain ⟨res, hres⟩ : ∃ r, (f10_drop σ) = r := ⟨_, rfl⟩
  rw [hres] at E
  exact bf10_drop C E _   hres
def f10_about (σ : St) (a1 : Int32) (a2 : Int32) : Int32 × St :=
  (if (f10_isRow σ a1) = (0 : Int32) then (((f10_finding σ (-1000000001 : Int32)).1), ((f10_finding σ (-1000000001 : Int32)).2)) else (if (f10_in a2 (0 : Int32) (6 : Int32)) = (0 : Int32) then (((f10_finding σ (-1000000001 : Int32)).1), ((f10_finding σ (-1000000001 : Int32)).2)) else (if a2 = (0 : Int32) then ((gA σ 20 (Int32.toNatClampNeg a1)), σ) else (if a2 = (1 : Int32) then ((gA σ 21 (Int32.toNatClampNeg a1)), σ) else (if a2 = (2 : Int32) then ((gA σ 22 (Int32.toNatClampNeg a1)), σ) else (if a2 = (3 : Int32) then ((gA σ 23 (Int32.toNatClampNeg a1)), σ) else (if a2 = (4 : Int32) then ((gA σ 24 (Int32.toNatClampNeg a1)), σ) else (if a2 = (5 : Int32) then ((gA σ 25 (Int32.toNatClampNeg a1)), σ) else ((gA σ 26 (Int32.toNatClampNeg a1)), σ)))))))))
set_option maxHeartbeats 4000000 in
set_option maxRecDepth 100000 in
theorem bf10_about {X : CX} {Λ : LY} (C : OK X Λ cX10_about 3 RX10 2 43) {res : Int32 × St} (E : EN X Λ (some .int) (some (.int res.1)) res.2) (σ : St) (a1 : Int32) (a2 : Int32) (hs : Safe σ) (hres : (f10_about σ a1 a2) = res) : VV X Λ 3 0 [(0, .ref (adr Λ 37)), (1, .int (a1)), (2, .int (a2))] [] σ := by
  unfold f10_about at hres
  refine v_aload_n (pc2 := 1) C 0 dX10_about_0 rfl rfl ?_
  refine v_iload_n (pc2 := 2) C 1 dX10_about_1 rfl rfl ?_
  refine v_cVi (pc2 := 5) C kc_X10_127 (mX10_isRow (xl X) Λ _ _) (wd37 Λ _) rfl (by decide) rfl rfl (Nat.le_of_ble_eq_true rfl) dX10_about_2 rfl ?_
  refine v_ifeq (pc2 := 18) (pc3 := 8) C dX10_about_5 rfl rfl (fun h5 => ?_) (fun h5 => ?_)
  · have hres := (if_pos h5).symm.trans hres
    refine v_aload_n (pc2 := 19) C 0 dX10_about_18 rfl rfl ?_
    refine v_ldc (pc2 := 21) C lc_X10_119 dX10_about_19 rfl ?_
    refine v_cVi (pc2 := 24) C kc_X10_120 (mX10_finding (xl X) Λ _ _ am1) (wd37 Λ _) rfl (by decide) rfl rfl (Nat.le_of_ble_eq_true rfl) dX10_about_21 rfl ?_
    exact r_iS C E hres dX10_about_24
  · have hres := (if_neg h5).symm.trans hres
    refine v_iload_n (pc2 := 9) C 2 dX10_about_8 rfl rfl ?_
    refine v_iconst (pc2 := 10) C dX10_about_9 ki_0 rfl ?_
    refine v_bipush (pc2 := 12) C dX10_about_10 kb_6 rfl ?_
    refine v_cSi (pc2 := 15) C kc_X10_75 (mX10_in (xl X) Λ _ _ _ _) (by decide) rfl rfl (Nat.le_of_ble_eq_true rfl) dX10_about_12 rfl ?_
    refine v_ifne (pc2 := 25) (pc3 := 18) C dX10_about_15 rfl rfl (fun h15 => ?_) (fun h15 => ?_)
    · have hres := (if_neg h15).symm.trans hres
      refine v_iload_n (pc2 := 26) C 2 dX10_about_25 rfl rfl ?_
      by_cases s26_0 : a2 = (0 : Int32)
      · have hres := (if_pos s26_0).symm.trans hres
        refine v_tabI (pc2 := 64) (j := 0) C dX10_about_26 s26_0 (by decide +kernel) (by decide) rfl rfl ?_
        refine v_aload_n (pc2 := 65) C 0 dX10_about_64 rfl rfl ?_
        refine vg_X10_kindOf (pc2 := 68) C lf_X10_9 dX10_about_65 rfl ?_
        refine v_iload_n (pc2 := 69) C 1 dX10_about_68 rfl rfl ?_
        refine al38 (pc2 := 70) C (mRow_in hs h5) dX10_about_69 rfl ?_
        exact r_iS C E hres dX10_about_70
      have hres := (if_neg s26_0).symm.trans hres
      by_cases s26_1 : a2 = (1 : Int32)
      · have hres := (if_pos s26_1).symm.trans hres
        refine v_tabI (pc2 := 71) (j := 1) C dX10_about_26 s26_1 (by decide +kernel) (by decide) rfl rfl ?_
        refine v_aload_n (pc2 := 72) C 0 dX10_about_71 rfl rfl ?_
        refine vg_X10_placeOf (pc2 := 75) C lf_X10_13 dX10_about_72 rfl ?_
        refine v_iload_n (pc2 := 76) C 1 dX10_about_75 rfl rfl ?_
        refine al39 (pc2 := 77) C (mRow_in hs h5) dX10_about_76 rfl ?_
        exact r_iS C E hres dX10_about_77
      have hres := (if_neg s26_1).symm.trans hres
      by_cases s26_2 : a2 = (2 : Int32)
      · have hres := (if_pos s26_2).symm.trans hres
        refine v_tabI (pc2 := 78) (j := 2) C dX10_about_26 s26_2 (by decide +kernel) (by decide) rfl rfl ?_
        refine v_aload_n (pc2 := 79) C 0 dX10_about_78 rfl rfl ?_
        refine vg_X10_heightOf (pc2 := 82) C lf_X10_16 dX10_about_79 rfl ?_
        refine v_iload_n (pc2 := 83) C 1 dX10_about_82 rfl rfl ?_
        refine al40 (pc2 := 84) C (mRow_in hs h5) dX10_about_83 rfl ?_
        exact r_iS C E hres dX10_about_84
      have hres := (if_neg s26_2).symm.trans hres
      by_cases s26_3 : a2 = (3 : Int32)
      · have hres := (if_pos s26_3).symm.trans hres
        refine v_tabI (pc2 := 85) (j := 3) C dX10_about_26 s26_3 (by decide +kernel) (by decide) rfl rfl ?_
        refine v_aload_n (pc2 := 86) C 0 dX10_about_85 rfl rfl ?_
        refine vg_X10_widthOf (pc2 := 89) C lf_X10_19 dX10_about_86 rfl ?_
        refine v_iload_n (pc2 := 90) C 1 dX10_about_89 rfl rfl ?_
        refine al41 (pc2 := 91) C (mRow_in hs h5) dX10_about_90 rfl ?_
        exact r_iS C E hres dX10_about_91
      have hres := (if_neg s26_3).symm.trans hres
      by_cases s26_4 : a2 = (4 : Int32)
      · have hres := (if_pos s26_4).symm.trans hres
        refine v_tabI (pc2 := 92) (j := 4) C dX10_about_26 s26_4 (by decide +kernel) (by decide) rfl rfl ?_
        refine v_aload_n (pc2 := 93) C 0 dX10_about_92 rfl rfl ?_
        refine vg_X10_dustOf (pc2 := 96) C lf_X10_22 dX10_about_93 rfl ?_
        refine v_iload_n (pc2 := 97) C 1 dX10_about_96 rfl rfl ?_
        refine al42 (pc2 := 98) C (mRow_in hs h5) dX10_about_97 rfl ?_
        exact r_iS C E hres dX10_about_98
      have hres := (if_neg s26_4).symm.trans hres
      by_cases s26_5 : a2 = (5 : Int32)
      · have hres := (if_pos s26_5).symm.trans hres
        refine v_tabI (pc2 := 99) (j := 5) C dX10_about_26 s26_5 (by decide +kernel) (by decide) rfl rfl ?_
        refine v_aload_n (pc2 := 100) C 0 dX10_about_99 rfl rfl ?_
        refine vg_X10_stepOf (pc2 := 103) C lf_X10_25 dX10_about_100 rfl ?_
        refine v_iload_n (pc2 := 104) C 1 dX10_about_103 rfl rfl ?_
        refine al43 (pc2 := 105) C (mRow_in hs h5) dX10_about_104 rfl ?_
        exact r_iS C E hres dX10_about_105
      have hres := (if_neg s26_5).symm.trans hres
      refine v_tabO (pc2 := 106) C dX10_about_26 (by have e0 := t_neq s26_0 rfl (show ((0 : Int32)).toInt = 0 by decide +kernel); have e1 := t_neq s26_1 rfl (show ((1 : Int32)).toInt = 1 by decide +kernel); have e2 := t_neq s26_2 rfl (show ((2 : Int32)).toInt = 2 by decide +kernel); have e3 := t_neq s26_3 rfl (show ((3 : Int32)).toInt = 3 by decide +kernel); have e4 := t_neq s26_4 rfl (show ((4 : Int32)).toInt = 4 by decide +kernel); have e5 := t_neq s26_5 rfl (show ((5 : Int32)).toInt = 5 by decide +kernel); omega) rfl ?_
      refine v_aload_n (pc2 := 107) C 0 dX10_about_106 rfl rfl ?_
      refine vg_X10_stringOf (pc2 := 110) C lf_X10_28 dX10_about_107 rfl ?_
      refine v_iload_n (pc2 := 111) C 1 dX10_about_110 rfl rfl ?_
      refine al44 (pc2 := 112) C (mRow_in hs h5) dX10_about_111 rfl ?_
      exact r_iS C E hres dX10_about_112
    · have hres := (if_pos h15).symm.trans hres
      refine v_aload_n (pc2 := 19) C 0 dX10_about_18 rfl rfl ?_
      refine v_ldc (pc2 := 21) C lc_X10_119 dX10_about_19 rfl ?_
      refine v_cVi (pc2 := 24) C kc_X10_120 (mX10_finding (xl X) Λ _ _ am1) (wd37 Λ _) rfl (by decide) rfl rfl (Nat.le_of_ble_eq_true rfl) dX10_about_21 rfl ?_
      exact r_iS C E hres dX10_about_24
theorem mX10_about (l : Launch) (Λ : LY) (σ : St) (a1 : Int32) (a2 : Int32) (hs : Safe σ) : CT l Λ yX10_about cX10_about 3 (some .int) 2 43 [.ref (adr Λ 37), .int (a1), .int (a2)] σ (some (.int (f10_about σ a1 a2).1)) (f10_about σ a1 a2).2 := by
  refine CT_of (by decide +kernel) (Nat.le_of_ble_eq_true rfl) ?_
  intro X hX C E
  obtain ⟨res, hres⟩ : ∃ r, (f10_about σ a1 a2) = r := ⟨_, rfl⟩
  rw [hres] at E
  exact bf10_about C E _ _ _  hs hres
def f10_as (σ : St) (a1 : Int32) (a2 : Int32) : Int32 × St :=
  (if (f10_isRow σ a1) = (0 : Int32) then (((f10_finding σ (-1000000001 : Int32)).1), ((f10_finding σ (-1000000001 : Int32)).2)) else (if (f10_in a2 (0 : Int32) (2 : Int32)) = (0 : Int32) then (((f10_finding σ (-1000000001 : Int32)).1), ((f10_finding σ (-1000000001 : Int32)).2)) else (if a2 = (0 : Int32) then ((gA σ 25 (Int32.toNatClampNeg a1)), σ) else (if (gA σ 20 (Int32.toNatClampNeg a1)) = a2 then ((gA σ 25 (Int32.toNatClampNeg a1)), σ) else (((f10_finding σ (-1000000003 : Int32)).1), ((f10_finding σ (-1000000003 : Int32)).2))))))
set_option maxHeartbeats 4000000 in
set_option maxRecDepth 100000 in
theorem bf10_as {X : CX} {Λ : LY} (C : OK X Λ cX10_as 3 RX10 2 43) {res : Int32 × St} (E : EN X Λ (some .int) (some (.int res.1)) res.2) (σ : St) (a1 : Int32) (a2 : Int32) (hs : Safe σ) (hres : (f10_as σ a1 a2) = res) : VV X Λ 3 0 [(0, .ref (adr Λ 37)), (1, .int (a1)), (2, .int (a2))] [] σ := by
  unfold f10_as at hres
  refine v_aload_n (pc2 := 1) C 0 dX10_as_0 rfl rfl ?_
  refine v_iload_n (pc2 := 2) C 1 dX10_as_1 rfl rfl ?_
  refine v_cVi (pc2 := 5) C kc_X10_127 (mX10_isRow (xl X) Λ _ _) (wd37 Λ _) rfl (by decide) rfl rfl (Nat.le_of_ble_eq_true rfl) dX10_as_2 rfl ?_
  refine v_ifeq (pc2 := 17) (pc3 := 8) C dX10_as_5 rfl rfl (fun h5 => ?_) (fun h5 => ?_)
  · have hres := (if_pos h5).symm.trans hres
    refine v_aload_n (pc2 := 18) C 0 dX10_as_17 rfl rfl ?_
    refine v_ldc (pc2 := 20) C lc_X10_119 dX10_as_18 rfl ?_
    refine v_cVi (pc2 := 23) C kc_X10_120 (mX10_finding (xl X) Λ _ _ am1) (wd37 Λ _) rfl (by decide) rfl rfl (Nat.le_of_ble_eq_true rfl) dX10_as_20 rfl ?_
    exact r_iS C E hres dX10_as_23
  · have hres := (if_neg h5).symm.trans hres
    refine v_iload_n (pc2 := 9) C 2 dX10_as_8 rfl rfl ?_
    refine v_iconst (pc2 := 10) C dX10_as_9 ki_0 rfl ?_
    refine v_iconst (pc2 := 11) C dX10_as_10 ki_2 rfl ?_
    refine v_cSi (pc2 := 14) C kc_X10_75 (mX10_in (xl X) Λ _ _ _ _) (by decide) rfl rfl (Nat.le_of_ble_eq_true rfl) dX10_as_11 rfl ?_
    refine v_ifne (pc2 := 24) (pc3 := 17) C dX10_as_14 rfl rfl (fun h14 => ?_) (fun h14 => ?_)
    · have hres := (if_neg h14).symm.trans hres
      refine v_iload_n (pc2 := 25) C 2 dX10_as_24 rfl rfl ?_
      refine v_ifeq (pc2 := 38) (pc3 := 28) C dX10_as_25 rfl rfl (fun h25 => ?_) (fun h25 => ?_)
      · have hres := (if_pos h25).symm.trans hres
        refine v_aload_n (pc2 := 39) C 0 dX10_as_38 rfl rfl ?_
        refine vg_X10_stepOf (pc2 := 42) C lf_X10_25 dX10_as_39 rfl ?_
        refine v_iload_n (pc2 := 43) C 1 dX10_as_42 rfl rfl ?_
        refine al43 (pc2 := 44) C (mRow_in hs h5) dX10_as_43 rfl ?_
        refine v_goto (pc2 := 53) C dX10_as_44 rfl ?_
        exact r_iS C E hres dX10_as_53
      · have hres := (if_neg h25).symm.trans hres
        refine v_aload_n (pc2 := 29) C 0 dX10_as_28 rfl rfl ?_
        refine vg_X10_kindOf (pc2 := 32) C lf_X10_9 dX10_as_29 rfl ?_
        refine v_iload_n (pc2 := 33) C 1 dX10_as_32 rfl rfl ?_
        refine al38 (pc2 := 34) C (mRow_in hs h5) dX10_as_33 rfl ?_
        refine v_iload_n (pc2 := 35) C 2 dX10_as_34 rfl rfl ?_
        refine v_icmpne (pc2 := 47) (pc3 := 38) C dX10_as_35 rfl rfl (fun h35 => ?_) (fun h35 => ?_)
        · have hres := (if_neg h35).symm.trans hres
          refine v_aload_n (pc2 := 48) C 0 dX10_as_47 rfl rfl ?_
          refine v_ldc (pc2 := 50) C lc_X10_130 dX10_as_48 rfl ?_
          refine v_cVi (pc2 := 53) C kc_X10_120 (mX10_finding (xl X) Λ _ _ am3) (wd37 Λ _) rfl (by decide) rfl rfl (Nat.le_of_ble_eq_true rfl) dX10_as_50 rfl ?_
          exact r_iS C E hres dX10_as_53
        · have hres := (if_pos h35).symm.trans hres
          refine v_aload_n (pc2 := 39) C 0 dX10_as_38 rfl rfl ?_
          refine vg_X10_stepOf (pc2 := 42) C lf_X10_25 dX10_as_39 rfl ?_
          refine v_iload_n (pc2 := 43) C 1 dX10_as_42 rfl rfl ?_
          refine al43 (pc2 := 44) C (mRow_in hs h5) dX10_as_43 rfl ?_
          refine v_goto (pc2 := 53) C dX10_as_44 rfl ?_
          exact r_iS C E hres dX10_as_53
    · have hres := (if_pos h14).symm.trans hres
      refine v_aload_n (pc2 := 18) C 0 dX10_as_17 rfl rfl ?_
      refine v_ldc (pc2 := 20) C lc_X10_119 dX10_as_18 rfl ?_
      refine v_cVi (pc2 := 23) C kc_X10_120 (mX10_finding (xl X) Λ _ _ am1) (wd37 Λ _) rfl (by decide) rfl rfl (Nat.le_of_ble_eq_true rfl) dX10_as_20 rfl ?_
      exact r_iS C E hres dX10_as_23
theorem mX10_as (l : Launch) (Λ : LY) (σ : St) (a1 : Int32) (a2 : Int32) (hs : Safe σ) : CT l Λ yX10_as cX10_as 3 (some .int) 2 43 [.ref (adr Λ 37), .int (a1), .int (a2)] σ (some (.int (f10_as σ a1 a2).1)) (f10_as σ a1 a2).2 := by
  refine CT_of (by decide +kernel) (Nat.le_of_ble_eq_true rfl) ?_
  intro X hX C E
  obtain ⟨res, hres⟩ : ∃ r, (f10_as σ a1 a2) = r := ⟨_, rfl⟩
  rw [hres] at E
  exact bf10_as C E _ _ _  hs hres
def f10_turn (σ : St) (a1 : Int32) (a2 : Int32) : Int32 × St :=
  (if (f10_isRow σ a1) = (0 : Int32) then (((f10_finding σ (-1000000001 : Int32)).1), ((f10_finding σ (-1000000001 : Int32)).2)) else (if (f10_isStep a2) = (0 : Int32) then (((f10_finding σ (-1000000001 : Int32)).1), ((f10_finding σ (-1000000001 : Int32)).2)) else (if (gA σ 20 (Int32.toNatClampNeg a1)) = (1 : Int32) then (((f10_finding σ (-1000000003 : Int32)).1), ((f10_finding σ (-1000000003 : Int32)).2)) else ((gA σ 25 (Int32.toNatClampNeg a1)), (uA σ 25 (Int32.toNatClampNeg a1) a2)))))
set_option maxHeartbeats 4000000 in
set_option maxRecDepth 100000 in
theorem bf10_turn {X : CX} {Λ : LY} (C : OK X Λ cX10_turn 4 RX10 2 43) {res : Int32 × St} (E : EN X Λ (some .int) (some (.int res.1)) res.2) (σ : St) (a1 : Int32) (a2 : Int32) (hs : Safe σ) (hres : (f10_turn σ a1 a2) = res) : VV X Λ 4 0 [(0, .ref (adr Λ 37)), (1, .int (a1)), (2, .int (a2))] [] σ := by
  unfold f10_turn at hres
  refine v_aload_n (pc2 := 1) C 0 dX10_turn_0 rfl rfl ?_
  refine v_iload_n (pc2 := 2) C 1 dX10_turn_1 rfl rfl ?_
  refine v_cVi (pc2 := 5) C kc_X10_127 (mX10_isRow (xl X) Λ _ _) (wd37 Λ _) rfl (by decide) rfl rfl (Nat.le_of_ble_eq_true rfl) dX10_turn_2 rfl ?_
  refine v_ifeq (pc2 := 15) (pc3 := 8) C dX10_turn_5 rfl rfl (fun h5 => ?_) (fun h5 => ?_)
  · have hres := (if_pos h5).symm.trans hres
    refine v_aload_n (pc2 := 16) C 0 dX10_turn_15 rfl rfl ?_
    refine v_ldc (pc2 := 18) C lc_X10_119 dX10_turn_16 rfl ?_
    refine v_cVi (pc2 := 21) C kc_X10_120 (mX10_finding (xl X) Λ _ _ am1) (wd37 Λ _) rfl (by decide) rfl rfl (Nat.le_of_ble_eq_true rfl) dX10_turn_18 rfl ?_
    exact r_iS C E hres dX10_turn_21
  · have hres := (if_neg h5).symm.trans hres
    refine v_iload_n (pc2 := 9) C 2 dX10_turn_8 rfl rfl ?_
    refine v_cSi (pc2 := 12) C kc_X10_115 (mX10_isStep (xl X) Λ _ _) (by decide) rfl rfl (Nat.le_of_ble_eq_true rfl) dX10_turn_9 rfl ?_
    refine v_ifne (pc2 := 22) (pc3 := 15) C dX10_turn_12 rfl rfl (fun h12 => ?_) (fun h12 => ?_)
    · have hres := (if_neg h12).symm.trans hres
      refine v_aload_n (pc2 := 23) C 0 dX10_turn_22 rfl rfl ?_
      refine vg_X10_kindOf (pc2 := 26) C lf_X10_9 dX10_turn_23 rfl ?_
      refine v_iload_n (pc2 := 27) C 1 dX10_turn_26 rfl rfl ?_
      refine al38 (pc2 := 28) C (mRow_in hs h5) dX10_turn_27 rfl ?_
      refine v_iconst (pc2 := 29) C dX10_turn_28 ki_1 rfl ?_
      refine v_icmpne (pc2 := 39) (pc3 := 32) C dX10_turn_29 rfl rfl (fun h29 => ?_) (fun h29 => ?_)
      · have hres := (if_neg h29).symm.trans hres
        refine v_aload_n (pc2 := 40) C 0 dX10_turn_39 rfl rfl ?_
        refine vg_X10_stepOf (pc2 := 43) C lf_X10_25 dX10_turn_40 rfl ?_
        refine v_iload_n (pc2 := 44) C 1 dX10_turn_43 rfl rfl ?_
        refine al43 (pc2 := 45) C (mRow_in hs h5) dX10_turn_44 rfl ?_
        refine v_istore_n (pc2 := 46) (lv2 := [(3, _), (0, _), (1, _), (2, _)]) C dX10_turn_45 (by decide) rfl rfl ?_
        refine v_aload_n (pc2 := 47) C 1 dX10_turn_46 rfl rfl ?_
        refine vg_X10_stepOf (pc2 := 50) C lf_X10_25 dX10_turn_47 rfl ?_
        refine v_iload_n (pc2 := 51) C 2 dX10_turn_50 rfl rfl ?_
        refine v_iload_n (pc2 := 52) C 3 dX10_turn_51 rfl rfl ?_
        refine as43 (pc2 := 53) C (mRow_in hs h5) dX10_turn_52 rfl ?_
        refine v_iload_n (pc2 := 54) C 0 dX10_turn_53 rfl rfl ?_
        exact r_iS C E hres dX10_turn_54
      · have hres := (if_pos h29).symm.trans hres
        refine v_aload_n (pc2 := 33) C 0 dX10_turn_32 rfl rfl ?_
        refine v_ldc (pc2 := 35) C lc_X10_130 dX10_turn_33 rfl ?_
        refine v_cVi (pc2 := 38) C kc_X10_120 (mX10_finding (xl X) Λ _ _ am3) (wd37 Λ _) rfl (by decide) rfl rfl (Nat.le_of_ble_eq_true rfl) dX10_turn_35 rfl ?_
        exact r_iS C E hres dX10_turn_38
    · have hres := (if_pos h12).symm.trans hres
      refine v_aload_n (pc2 := 16) C 0 dX10_turn_15 rfl rfl ?_
      refine v_ldc (pc2 := 18) C lc_X10_119 dX10_turn_16 rfl ?_
      refine v_cVi (pc2 := 21) C kc_X10_120 (mX10_finding (xl X) Λ _ _ am1) (wd37 Λ _) rfl (by decide) rfl rfl (Nat.le_of_ble_eq_true rfl) dX10_turn_18 rfl ?_
      exact r_iS C E hres dX10_turn_21
theorem mX10_turn (l : Launch) (Λ : LY) (σ : St) (a1 : Int32) (a2 : Int32) (hs : Safe σ) : CT l Λ yX10_turn cX10_turn 4 (some .int) 2 43 [.ref (adr Λ 37), .int (a1), .int (a2)] σ (some (.int (f10_turn σ a1 a2).1)) (f10_turn σ a1 a2).2 := by
  refine CT_of (by decide +kernel) (Nat.le_of_ble_eq_true rfl) ?_
  intro X hX C E
  obtain ⟨res, hres⟩ : ∃ r, (f10_turn σ a1 a2) = r := ⟨_, rfl⟩
  rw [hres] at E
  exact bf10_turn C E _ _ _  hs hres
def f10_dust (σ : St) (a1 : Int32) (a2 : Int32) : Int32 × St :=
  (if (f10_isRow σ a1) = (0 : Int32) then (((f10_finding σ (-1000000001 : Int32)).1), ((f10_finding σ (-1000000001 : Int32)).2)) else (if (f10_in a2 (0 : Int32) (1000 : Int32)) = (0 : Int32) then (((f10_finding σ (-1000000001 : Int32)).1), ((f10_finding σ (-1000000001 : Int32)).2)) else ((gA σ 24 (Int32.toNatClampNeg a1)), (uA σ 24 (Int32.toNatClampNeg a1) a2))))
set_option maxHeartbeats 4000000 in
set_option maxRecDepth 100000 in
theorem bf10_dust {X : CX} {Λ : LY} (C : OK X Λ cX10_dust 4 RX10 2 43) {res : Int32 × St} (E : EN X Λ (some .int) (some (.int res.1)) res.2) (σ : St) (a1 : Int32) (a2 : Int32) (hs : Safe σ) (hres : (f10_dust σ a1 a2) = res) : VV X Λ 4 0 [(0, .ref (adr Λ 37)), (1, .int (a1)), (2, .int (a2))] [] σ := by
  unfold f10_dust at hres
  refine v_aload_n (pc2 := 1) C 0 dX10_dust_0 rfl rfl ?_
  refine v_iload_n (pc2 := 2) C 1 dX10_dust_1 rfl rfl ?_
  refine v_cVi (pc2 := 5) C kc_X10_127 (mX10_isRow (xl X) Λ _ _) (wd37 Λ _) rfl (by decide) rfl rfl (Nat.le_of_ble_eq_true rfl) dX10_dust_2 rfl ?_
  refine v_ifeq (pc2 := 19) (pc3 := 8) C dX10_dust_5 rfl rfl (fun h5 => ?_) (fun h5 => ?_)
  · have hres := (if_pos h5).symm.trans hres
    refine v_aload_n (pc2 := 20) C 0 dX10_dust_19 rfl rfl ?_
    refine v_ldc (pc2 := 22) C lc_X10_119 dX10_dust_20 rfl ?_
    refine v_cVi (pc2 := 25) C kc_X10_120 (mX10_finding (xl X) Λ _ _ am1) (wd37 Λ _) rfl (by decide) rfl rfl (Nat.le_of_ble_eq_true rfl) dX10_dust_22 rfl ?_
    exact r_iS C E hres dX10_dust_25
  · have hres := (if_neg h5).symm.trans hres
    refine v_iload_n (pc2 := 9) C 2 dX10_dust_8 rfl rfl ?_
    refine v_iconst (pc2 := 10) C dX10_dust_9 ki_0 rfl ?_
    refine v_sipush (pc2 := 13) C dX10_dust_10 ks_1000 rfl ?_
    refine v_cSi (pc2 := 16) C kc_X10_75 (mX10_in (xl X) Λ _ _ _ _) (by decide) rfl rfl (Nat.le_of_ble_eq_true rfl) dX10_dust_13 rfl ?_
    refine v_ifne (pc2 := 26) (pc3 := 19) C dX10_dust_16 rfl rfl (fun h16 => ?_) (fun h16 => ?_)
    · have hres := (if_neg h16).symm.trans hres
      refine v_aload_n (pc2 := 27) C 0 dX10_dust_26 rfl rfl ?_
      refine vg_X10_dustOf (pc2 := 30) C lf_X10_22 dX10_dust_27 rfl ?_
      refine v_iload_n (pc2 := 31) C 1 dX10_dust_30 rfl rfl ?_
      refine al42 (pc2 := 32) C (mRow_in hs h5) dX10_dust_31 rfl ?_
      refine v_istore_n (pc2 := 33) (lv2 := [(3, _), (0, _), (1, _), (2, _)]) C dX10_dust_32 (by decide) rfl rfl ?_
      refine v_aload_n (pc2 := 34) C 1 dX10_dust_33 rfl rfl ?_
      refine vg_X10_dustOf (pc2 := 37) C lf_X10_22 dX10_dust_34 rfl ?_
      refine v_iload_n (pc2 := 38) C 2 dX10_dust_37 rfl rfl ?_
      refine v_iload_n (pc2 := 39) C 3 dX10_dust_38 rfl rfl ?_
      refine as42 (pc2 := 40) C (mRow_in hs h5) dX10_dust_39 rfl ?_
      refine v_iload_n (pc2 := 41) C 0 dX10_dust_40 rfl rfl ?_
      exact r_iS C E hres dX10_dust_41
    · have hres := (if_pos h16).symm.trans hres
      refine v_aload_n (pc2 := 20) C 0 dX10_dust_19 rfl rfl ?_
      refine v_ldc (pc2 := 22) C lc_X10_119 dX10_dust_20 rfl ?_
      refine v_cVi (pc2 := 25) C kc_X10_120 (mX10_finding (xl X) Λ _ _ am1) (wd37 Λ _) rfl (by decide) rfl rfl (Nat.le_of_ble_eq_true rfl) dX10_dust_22 rfl ?_
      exact r_iS C E hres dX10_dust_25
theorem mX10_dust (l : Launch) (Λ : LY) (σ : St) (a1 : Int32) (a2 : Int32) (hs : Safe σ) : CT l Λ yX10_dust cX10_dust 4 (some .int) 2 43 [.ref (adr Λ 37), .int (a1), .int (a2)] σ (some (.int (f10_dust σ a1 a2).1)) (f10_dust σ a1 a2).2 := by
  refine CT_of (by decide +kernel) (Nat.le_of_ble_eq_true rfl) ?_
  intro X hX C E
  obtain ⟨res, hres⟩ : ∃ r, (f10_dust σ a1 a2) = r := ⟨_, rfl⟩
  rw [hres] at E
  exact bf10_dust C E _ _ _  hs hres
def f10_sun (σ : St) (a1 : Int32) (a2 : Int32) (a3 : Int32) : Int32 × St :=
  (if (f10_isSun a1 a2 a3) = (0 : Int32) then (((f10_finding σ (-1000000001 : Int32)).1), ((f10_finding σ (-1000000001 : Int32)).2)) else (if a3 ≤ (0 : Int32) then ((0 : Int32), (f10_setSun σ a1 a2 a3)) else ((1 : Int32), (f10_setSun σ a1 a2 a3))))
set_option maxHeartbeats 4000000 in
set_option maxRecDepth 100000 in
theorem bf10_sun {X : CX} {Λ : LY} (C : OK X Λ cX10_sun 4 RX10 3 64) {res : Int32 × St} (E : EN X Λ (some .int) (some (.int res.1)) res.2) (σ : St) (a1 : Int32) (a2 : Int32) (a3 : Int32)  (hres : (f10_sun σ a1 a2 a3) = res) : VV X Λ 4 0 [(0, .ref (adr Λ 37)), (1, .int (a1)), (2, .int (a2)), (3, .int (a3))] [] σ := by
  unfold f10_sun at hres
  refine v_iload_n (pc2 := 1) C 1 dX10_sun_0 rfl rfl ?_
  refine v_iload_n (pc2 := 2) C 2 dX10_sun_1 rfl rfl ?_
  refine v_iload_n (pc2 := 3) C 3 dX10_sun_2 rfl rfl ?_
  refine v_cSi (pc2 := 6) C kc_X10_134 (mX10_isSun (xl X) Λ _ _ _ _) (by decide) rfl rfl (Nat.le_of_ble_eq_true rfl) dX10_sun_3 rfl ?_
  refine v_ifne (pc2 := 16) (pc3 := 9) C dX10_sun_6 rfl rfl (fun h6 => ?_) (fun h6 => ?_)
  · have hres := (if_neg h6).symm.trans hres
    refine v_aload_n (pc2 := 17) C 0 dX10_sun_16 rfl rfl ?_
    refine v_iload_n (pc2 := 18) C 1 dX10_sun_17 rfl rfl ?_
    refine v_iload_n (pc2 := 19) C 2 dX10_sun_18 rfl rfl ?_
    refine v_iload_n (pc2 := 20) C 3 dX10_sun_19 rfl rfl ?_
    refine v_cVv (pc2 := 23) C kc_X10_137 (mX10_setSun (xl X) Λ _ _ _ _ (mSun_in h6)) (wd37 Λ _) rfl (by decide) rfl rfl (Nat.le_of_ble_eq_true rfl) dX10_sun_20 rfl ?_
    refine v_iload_n (pc2 := 24) C 3 dX10_sun_23 rfl rfl ?_
    refine v_ifle (pc2 := 31) (pc3 := 27) C dX10_sun_24 rfl rfl (fun h24 => ?_) (fun h24 => ?_)
    · have hres := (if_pos h24).symm.trans hres
      refine v_iconst (pc2 := 32) C dX10_sun_31 ki_0 rfl ?_
      exact r_iS C E hres dX10_sun_32
    · have hres := (if_neg h24).symm.trans hres
      refine v_iconst (pc2 := 28) C dX10_sun_27 ki_1 rfl ?_
      refine v_goto (pc2 := 32) C dX10_sun_28 rfl ?_
      exact r_iS C E hres dX10_sun_32
  · have hres := (if_pos h6).symm.trans hres
    refine v_aload_n (pc2 := 10) C 0 dX10_sun_9 rfl rfl ?_
    refine v_ldc (pc2 := 12) C lc_X10_119 dX10_sun_10 rfl ?_
    refine v_cVi (pc2 := 15) C kc_X10_120 (mX10_finding (xl X) Λ _ _ am1) (wd37 Λ _) rfl (by decide) rfl rfl (Nat.le_of_ble_eq_true rfl) dX10_sun_12 rfl ?_
    exact r_iS C E hres dX10_sun_15
theorem mX10_sun (l : Launch) (Λ : LY) (σ : St) (a1 : Int32) (a2 : Int32) (a3 : Int32)  : CT l Λ yX10_sun cX10_sun 4 (some .int) 3 64 [.ref (adr Λ 37), .int (a1), .int (a2), .int (a3)] σ (some (.int (f10_sun σ a1 a2 a3).1)) (f10_sun σ a1 a2 a3).2 := by
  refine CT_of (by decide +kernel) (Nat.le_of_ble_eq_true rfl) ?_
  intro X hX C E
  obtain ⟨res, hres⟩ : ∃ r, (f10_sun σ a1 a2 a3) = r := ⟨_, rfl⟩
  rw [hres] at E
  exact bf10_sun C E _ _ _ _   hres
def f10_suns_B (to : Int32) : Nat → St → Int32 → Int32 × St
  | 0, σ, _ => (0, σ)
  | n + 1, σ, j => (if to ≤ j then ((to / (3 : Int32)), σ) else (f10_suns_B to n (f10_setSun σ (gA σ 32 (Int32.toNatClampNeg j)) (gA σ 32 (Int32.toNatClampNeg (j + (1 : Int32)))) (gA σ 32 (Int32.toNatClampNeg (j + (2 : Int32))))) (j + (3 : Int32))))
set_option maxHeartbeats 4000000 in
set_option maxRecDepth 100000 in
theorem bf10_suns_B {X : CX} {Λ : LY} (C : OK X Λ cX10_suns 3 RX10 3 64) {res : Int32 × St} (E : EN X Λ (some .int) (some (.int res.1)) res.2) (to : Int32)  : ∀ (n : Nat) (σ : St) (j : Int32), (ht : 0 ≤ to.toInt ∧ to.toInt ≤ 72) → (hm : to.toInt % 3 = 0) → (hu : U3 j n) → (ha : AllTM σ to) → (f10_suns_B to n σ j) = res → VV X Λ 3 73 [(0, .ref (adr Λ 37)), (1, .int (to)), (2, .int (j))] [] σ := by
  intro n
  induction n with
  | zero => intro σ j ht hm hu ha hres; exact absurd hu (fun h => h.z)
  | succ n ih =>
    intro σ j ht hm hu ha hres
    rw [f10_suns_B] at hres
    refine v_iload_n (pc2 := 74) C 2 dX10_suns_73 rfl rfl ?_
    refine v_iload_n (pc2 := 75) C 1 dX10_suns_74 rfl rfl ?_
    refine v_icmpge (pc2 := 110) (pc3 := 78) C dX10_suns_75 rfl rfl (fun h75 => ?_) (fun h75 => ?_)
    · have hres := (if_pos h75).symm.trans hres
      refine v_iload_n (pc2 := 111) C 1 dX10_suns_110 rfl rfl ?_
      refine v_iconst (pc2 := 112) C dX10_suns_111 ki_3 rfl ?_
      refine v_idiv (pc2 := 113) C dX10_suns_112 (by decide) rfl ?_
      exact r_iS C E hres dX10_suns_113
    · have hres := (if_neg h75).symm.trans hres
      refine v_aload_n (pc2 := 79) C 0 dX10_suns_78 rfl rfl ?_
      refine v_aload_n (pc2 := 80) C 0 dX10_suns_79 rfl rfl ?_
      refine vg_X10_tape (pc2 := 83) C lf_X10_58 dX10_suns_80 rfl ?_
      refine v_iload_n (pc2 := 84) C 2 dX10_suns_83 rfl rfl ?_
      refine al52 (pc2 := 85) C (hu.i0 (hu.cv h75 ht hm) ht.2) dX10_suns_84 rfl ?_
      refine v_aload_n (pc2 := 86) C 0 dX10_suns_85 rfl rfl ?_
      refine vg_X10_tape (pc2 := 89) C lf_X10_58 dX10_suns_86 rfl ?_
      refine v_iload_n (pc2 := 90) C 2 dX10_suns_89 rfl rfl ?_
      refine v_iconst (pc2 := 91) C dX10_suns_90 ki_1 rfl ?_
      refine v_iadd (pc2 := 92) C dX10_suns_91 rfl ?_
      refine al52 (pc2 := 93) C (hu.i1 (hu.cv h75 ht hm) ht.2) dX10_suns_92 rfl ?_
      refine v_aload_n (pc2 := 94) C 0 dX10_suns_93 rfl rfl ?_
      refine vg_X10_tape (pc2 := 97) C lf_X10_58 dX10_suns_94 rfl ?_
      refine v_iload_n (pc2 := 98) C 2 dX10_suns_97 rfl rfl ?_
      refine v_iconst (pc2 := 99) C dX10_suns_98 ki_2 rfl ?_
      refine v_iadd (pc2 := 100) C dX10_suns_99 rfl ?_
      refine al52 (pc2 := 101) C (hu.i2 (hu.cv h75 ht hm) ht.2) dX10_suns_100 rfl ?_
      refine v_cVv (pc2 := 104) C kc_X10_137 (mX10_setSun (xl X) Λ _ _ _ _ (mSun_in (ha.at hu (hu.cv h75 ht hm) ht.2))) (wd37 Λ _) rfl (by decide) rfl rfl (Nat.le_of_ble_eq_true rfl) dX10_suns_101 rfl ?_
      refine v_iinc (pc2 := 107) (lv2 := [(2, _), (0, _), (1, _)]) C 2 dX10_suns_104 rfl ki_3 (by decide) rfl rfl ?_
      refine v_goto (pc2 := 73) C dX10_suns_107 rfl ?_
      exact v_lv [1, 2, 0] rfl (ih _ _ ht hm (hu.step (hu.cv h75 ht hm) ht.2) ha.put hres)
def f10_suns_A (to : Int32) : Nat → St → Int32 → Int32 × St
  | 0, σ, _ => (0, σ)
  | n + 1, σ, j => (if to ≤ j then (f10_suns_B to 25 σ (0 : Int32)) else (if (f10_isSun (gA σ 32 (Int32.toNatClampNeg j)) (gA σ 32 (Int32.toNatClampNeg (j + (1 : Int32)))) (gA σ 32 (Int32.toNatClampNeg (j + (2 : Int32))))) = (0 : Int32) then (((f10_finding σ (-1000000001 : Int32)).1), ((f10_finding σ (-1000000001 : Int32)).2)) else (f10_suns_A to n σ (j + (3 : Int32)))))
set_option maxHeartbeats 4000000 in
set_option maxRecDepth 100000 in
theorem bf10_suns_A {X : CX} {Λ : LY} (C : OK X Λ cX10_suns 3 RX10 3 64) {res : Int32 × St} (E : EN X Λ (some .int) (some (.int res.1)) res.2) (to : Int32)  : ∀ (n : Nat) (σ : St) (j : Int32), (ht : 0 ≤ to.toInt ∧ to.toInt ≤ 72) → (hm : to.toInt % 3 = 0) → (hu : U3 j n) → (ha : AllSM σ j) → (f10_suns_A to n σ j) = res → VV X Λ 3 25 [(0, .ref (adr Λ 37)), (1, .int (to)), (2, .int (j))] [] σ := by
  intro n
  induction n with
  | zero => intro σ j ht hm hu ha hres; exact absurd hu (fun h => h.z)
  | succ n ih =>
    intro σ j ht hm hu ha hres
    rw [f10_suns_A] at hres
    refine v_iload_n (pc2 := 26) C 2 dX10_suns_25 rfl rfl ?_
    refine v_iload_n (pc2 := 27) C 1 dX10_suns_26 rfl rfl ?_
    refine v_icmpge (pc2 := 71) (pc3 := 30) C dX10_suns_27 rfl rfl (fun h27 => ?_) (fun h27 => ?_)
    · have hres := (if_pos h27).symm.trans hres
      refine v_iconst (pc2 := 72) C dX10_suns_71 ki_0 rfl ?_
      refine v_istore_n (pc2 := 73) (lv2 := [(2, _), (0, _), (1, _)]) C dX10_suns_72 (by decide) rfl rfl ?_
      exact v_lv [1, 2, 0] rfl (bf10_suns_B C E _ 25 _ _ ht hm U3.start (ha.all hu h27 ht.2)  hres)
    · have hres := (if_neg h27).symm.trans hres
      refine v_aload_n (pc2 := 31) C 0 dX10_suns_30 rfl rfl ?_
      refine vg_X10_tape (pc2 := 34) C lf_X10_58 dX10_suns_31 rfl ?_
      refine v_iload_n (pc2 := 35) C 2 dX10_suns_34 rfl rfl ?_
      refine al52 (pc2 := 36) C (hu.i0 (hu.cv h27 ht hm) ht.2) dX10_suns_35 rfl ?_
      refine v_aload_n (pc2 := 37) C 0 dX10_suns_36 rfl rfl ?_
      refine vg_X10_tape (pc2 := 40) C lf_X10_58 dX10_suns_37 rfl ?_
      refine v_iload_n (pc2 := 41) C 2 dX10_suns_40 rfl rfl ?_
      refine v_iconst (pc2 := 42) C dX10_suns_41 ki_1 rfl ?_
      refine v_iadd (pc2 := 43) C dX10_suns_42 rfl ?_
      refine al52 (pc2 := 44) C (hu.i1 (hu.cv h27 ht hm) ht.2) dX10_suns_43 rfl ?_
      refine v_aload_n (pc2 := 45) C 0 dX10_suns_44 rfl rfl ?_
      refine vg_X10_tape (pc2 := 48) C lf_X10_58 dX10_suns_45 rfl ?_
      refine v_iload_n (pc2 := 49) C 2 dX10_suns_48 rfl rfl ?_
      refine v_iconst (pc2 := 50) C dX10_suns_49 ki_2 rfl ?_
      refine v_iadd (pc2 := 51) C dX10_suns_50 rfl ?_
      refine al52 (pc2 := 52) C (hu.i2 (hu.cv h27 ht hm) ht.2) dX10_suns_51 rfl ?_
      refine v_cSi (pc2 := 55) C kc_X10_134 (mX10_isSun (xl X) Λ _ _ _ _) (by decide) rfl rfl (Nat.le_of_ble_eq_true rfl) dX10_suns_52 rfl ?_
      refine v_ifne (pc2 := 65) (pc3 := 58) C dX10_suns_55 rfl rfl (fun h55 => ?_) (fun h55 => ?_)
      · have hres := (if_neg h55).symm.trans hres
        refine v_iinc (pc2 := 68) (lv2 := [(2, _), (0, _), (1, _)]) C 2 dX10_suns_65 rfl ki_3 (by decide) rfl rfl ?_
        refine v_goto (pc2 := 25) C dX10_suns_68 rfl ?_
        exact v_lv [1, 2, 0] rfl (ih _ _ ht hm (hu.step (hu.cv h27 ht hm) ht.2) (ha.step hu (hu.cv h27 ht hm) ht.2 h55) hres)
      · have hres := (if_pos h55).symm.trans hres
        refine v_aload_n (pc2 := 59) C 0 dX10_suns_58 rfl rfl ?_
        refine v_ldc (pc2 := 61) C lc_X10_119 dX10_suns_59 rfl ?_
        refine v_cVi (pc2 := 64) C kc_X10_120 (mX10_finding (xl X) Λ _ _ am1) (wd37 Λ _) rfl (by decide) rfl rfl (Nat.le_of_ble_eq_true rfl) dX10_suns_61 rfl ?_
        exact r_iS C E hres dX10_suns_64
def f10_suns (σ : St) : Int32 × St :=
  (if ((gI σ 28) - (gI σ 28) / (3 : Int32) * (3 : Int32)) = (0 : Int32) then (f10_suns_A (gI σ 28) 25 (uI σ 28 (0 : Int32)) (0 : Int32)) else (((f10_finding σ (-1000000005 : Int32)).1), ((f10_finding σ (-1000000005 : Int32)).2)))
set_option maxHeartbeats 4000000 in
set_option maxRecDepth 100000 in
theorem bf10_suns {X : CX} {Λ : LY} (C : OK X Λ cX10_suns 3 RX10 3 64) {res : Int32 × St} (E : EN X Λ (some .int) (some (.int res.1)) res.2) (σ : St) (hs : Safe σ) (hres : (f10_suns σ) = res) : VV X Λ 3 0 [(0, .ref (adr Λ 37))] [] σ := by
  unfold f10_suns at hres
  refine v_aload_n (pc2 := 1) C 0 dX10_suns_0 rfl rfl ?_
  refine vg_X10_taped (pc2 := 4) C lf_X10_141 dX10_suns_1 rfl ?_
  refine v_istore_n (pc2 := 5) (lv2 := [(1, _), (0, _)]) C dX10_suns_4 (by decide) rfl rfl ?_
  refine v_iload_n (pc2 := 6) C 0 dX10_suns_5 rfl rfl ?_
  refine v_iconst (pc2 := 7) C dX10_suns_6 ki_3 rfl ?_
  refine v_irem (pc2 := 8) C dX10_suns_7 (by decide) rfl ?_
  refine v_ifeq (pc2 := 18) (pc3 := 11) C dX10_suns_8 rfl rfl (fun h8 => ?_) (fun h8 => ?_)
  · have hres := (if_pos h8).symm.trans hres
    refine v_aload_n (pc2 := 19) C 1 dX10_suns_18 rfl rfl ?_
    refine v_iconst (pc2 := 20) C dX10_suns_19 ki_0 rfl ?_
    refine vp_X10_taped (pc2 := 23) C lf_X10_141 dX10_suns_20 rfl ?_
    refine v_iconst (pc2 := 24) C dX10_suns_23 ki_0 rfl ?_
    refine v_istore_n (pc2 := 25) (lv2 := [(2, _), (1, _), (0, _)]) C dX10_suns_24 (by decide) rfl rfl ?_
    exact v_lv [2, 1, 0] rfl (bf10_suns_A C E _ 25 _ _ hs.mtp (mod3 hs.mtp h8) U3.start AllSM.start  hres)
  · have hres := (if_neg h8).symm.trans hres
    refine v_aload_n (pc2 := 12) C 1 dX10_suns_11 rfl rfl ?_
    refine v_ldc (pc2 := 14) C lc_X10_124 dX10_suns_12 rfl ?_
    refine v_cVi (pc2 := 17) C kc_X10_120 (mX10_finding (xl X) Λ _ _ am5) (wd37 Λ _) rfl (by decide) rfl rfl (Nat.le_of_ble_eq_true rfl) dX10_suns_14 rfl ?_
    exact r_iS C E hres dX10_suns_17
theorem mX10_suns (l : Launch) (Λ : LY) (σ : St) (hs : Safe σ) : CT l Λ yX10_suns cX10_suns 3 (some .int) 3 64 [.ref (adr Λ 37)] σ (some (.int (f10_suns σ).1)) (f10_suns σ).2 := by
  refine CT_of (by decide +kernel) (Nat.le_of_ble_eq_true rfl) ?_
  intro X hX C E
  obtain ⟨res, hres⟩ : ∃ r, (f10_suns σ) = r := ⟨_, rfl⟩
  rw [hres] at E
  exact bf10_suns C E _  hs hres
def f10_ideal (σ : St) (a1 : Int32) : Int32 × St :=
  (if (f10_isHour a1) = (0 : Int32) then (((f10_finding σ (-1000000001 : Int32)).1), ((f10_finding σ (-1000000001 : Int32)).2)) else (if (f10_isNight σ a1) = (0 : Int32) then ((f10_idealOf σ a1), σ) else (((f10_finding σ (-1000000002 : Int32)).1), ((f10_finding σ (-1000000002 : Int32)).2))))
set_option maxHeartbeats 4000000 in
set_option maxRecDepth 100000 in
theorem bf10_ideal {X : CX} {Λ : LY} (C : OK X Λ cX10_ideal 2 RX10 2 51) {res : Int32 × St} (E : EN X Λ (some .int) (some (.int res.1)) res.2) (σ : St) (a1 : Int32)  (hres : (f10_ideal σ a1) = res) : VV X Λ 2 0 [(0, .ref (adr Λ 37)), (1, .int (a1))] [] σ := by
  unfold f10_ideal at hres
  refine v_iload_n (pc2 := 1) C 1 dX10_ideal_0 rfl rfl ?_
  refine v_cSi (pc2 := 4) C kc_X10_131 (mX10_isHour (xl X) Λ _ _) (by decide) rfl rfl (Nat.le_of_ble_eq_true rfl) dX10_ideal_1 rfl ?_
  refine v_ifne (pc2 := 14) (pc3 := 7) C dX10_ideal_4 rfl rfl (fun h4 => ?_) (fun h4 => ?_)
  · have hres := (if_neg h4).symm.trans hres
    refine v_aload_n (pc2 := 15) C 0 dX10_ideal_14 rfl rfl ?_
    refine v_iload_n (pc2 := 16) C 1 dX10_ideal_15 rfl rfl ?_
    refine v_cVi (pc2 := 19) C kc_X10_185 (mX10_isNight (xl X) Λ _ _ (mHour_in h4)) (wd37 Λ _) rfl (by decide) rfl rfl (Nat.le_of_ble_eq_true rfl) dX10_ideal_16 rfl ?_
    refine v_ifeq (pc2 := 31) (pc3 := 22) C dX10_ideal_19 rfl rfl (fun h19 => ?_) (fun h19 => ?_)
    · have hres := (if_pos h19).symm.trans hres
      refine v_aload_n (pc2 := 32) C 0 dX10_ideal_31 rfl rfl ?_
      refine v_iload_n (pc2 := 33) C 1 dX10_ideal_32 rfl rfl ?_
      refine v_cVi (pc2 := 36) C kc_X10_178 (mX10_idealOf (xl X) Λ _ _ (mHour_in h4)) (wd37 Λ _) rfl (by decide) rfl rfl (Nat.le_of_ble_eq_true rfl) dX10_ideal_33 rfl ?_
      exact r_iS C E hres dX10_ideal_36
    · have hres := (if_neg h19).symm.trans hres
      refine v_aload_n (pc2 := 23) C 0 dX10_ideal_22 rfl rfl ?_
      refine v_ldc (pc2 := 25) C lc_X10_126 dX10_ideal_23 rfl ?_
      refine v_cVi (pc2 := 28) C kc_X10_120 (mX10_finding (xl X) Λ _ _ am2) (wd37 Λ _) rfl (by decide) rfl rfl (Nat.le_of_ble_eq_true rfl) dX10_ideal_25 rfl ?_
      refine v_goto (pc2 := 36) C dX10_ideal_28 rfl ?_
      exact r_iS C E hres dX10_ideal_36
  · have hres := (if_pos h4).symm.trans hres
    refine v_aload_n (pc2 := 8) C 0 dX10_ideal_7 rfl rfl ?_
    refine v_ldc (pc2 := 10) C lc_X10_119 dX10_ideal_8 rfl ?_
    refine v_cVi (pc2 := 13) C kc_X10_120 (mX10_finding (xl X) Λ _ _ am1) (wd37 Λ _) rfl (by decide) rfl rfl (Nat.le_of_ble_eq_true rfl) dX10_ideal_10 rfl ?_
    exact r_iS C E hres dX10_ideal_13
theorem mX10_ideal (l : Launch) (Λ : LY) (σ : St) (a1 : Int32)  : CT l Λ yX10_ideal cX10_ideal 2 (some .int) 2 51 [.ref (adr Λ 37), .int (a1)] σ (some (.int (f10_ideal σ a1).1)) (f10_ideal σ a1).2 := by
  refine CT_of (by decide +kernel) (Nat.le_of_ble_eq_true rfl) ?_
  intro X hX C E
  obtain ⟨res, hres⟩ : ∃ r, (f10_ideal σ a1) = r := ⟨_, rfl⟩
  rw [hres] at E
  exact bf10_ideal C E _ _   hres
def f10_back (σ : St) (a1 : Int32) : Int32 × St :=
  (if (f10_isHour a1) = (0 : Int32) then (((f10_finding σ (-1000000001 : Int32)).1), ((f10_finding σ (-1000000001 : Int32)).2)) else (if (f10_isNight σ a1) = (0 : Int32) then (if ((f10_backOf σ a1).1) = (99 : Int32) then (((f10_finding ((f10_backOf σ a1).2) (-1000000002 : Int32)).1), ((f10_finding ((f10_backOf σ a1).2) (-1000000002 : Int32)).2)) else (((f10_backOf σ a1).1), ((f10_backOf σ a1).2))) else (((f10_finding σ (-1000000003 : Int32)).1), ((f10_finding σ (-1000000003 : Int32)).2))))
set_option maxHeartbeats 4000000 in
set_option maxRecDepth 100000 in
theorem bf10_back {X : CX} {Λ : LY} (C : OK X Λ cX10_back 3 RX10 6 164) {res : Int32 × St} (E : EN X Λ (some .int) (some (.int res.1)) res.2) (σ : St) (a1 : Int32) (hs : Safe σ) (hres : (f10_back σ a1) = res) : VV X Λ 3 0 [(0, .ref (adr Λ 37)), (1, .int (a1))] [] σ := by
  unfold f10_back at hres
  refine v_iload_n (pc2 := 1) C 1 dX10_back_0 rfl rfl ?_
  refine v_cSi (pc2 := 4) C kc_X10_131 (mX10_isHour (xl X) Λ _ _) (by decide) rfl rfl (Nat.le_of_ble_eq_true rfl) dX10_back_1 rfl ?_
  refine v_ifne (pc2 := 14) (pc3 := 7) C dX10_back_4 rfl rfl (fun h4 => ?_) (fun h4 => ?_)
  · have hres := (if_neg h4).symm.trans hres
    refine v_aload_n (pc2 := 15) C 0 dX10_back_14 rfl rfl ?_
    refine v_iload_n (pc2 := 16) C 1 dX10_back_15 rfl rfl ?_
    refine v_cVi (pc2 := 19) C kc_X10_185 (mX10_isNight (xl X) Λ _ _ (mHour_in h4)) (wd37 Λ _) rfl (by decide) rfl rfl (Nat.le_of_ble_eq_true rfl) dX10_back_16 rfl ?_
    refine v_ifeq (pc2 := 29) (pc3 := 22) C dX10_back_19 rfl rfl (fun h19 => ?_) (fun h19 => ?_)
    · have hres := (if_pos h19).symm.trans hres
      refine v_aload_n (pc2 := 30) C 0 dX10_back_29 rfl rfl ?_
      refine v_iload_n (pc2 := 31) C 1 dX10_back_30 rfl rfl ?_
      refine v_cVi (pc2 := 34) C kc_X10_188 (mX10_backOf (xl X) Λ _ _ hs (mHour_in h4)) (wd37 Λ _) rfl (by decide) rfl rfl (Nat.le_of_ble_eq_true rfl) dX10_back_31 rfl ?_
      refine v_istore_n (pc2 := 35) (lv2 := [(2, _), (0, _), (1, _)]) C dX10_back_34 (by decide) rfl rfl ?_
      refine v_iload_n (pc2 := 36) C 0 dX10_back_35 rfl rfl ?_
      refine v_bipush (pc2 := 38) C dX10_back_36 kb_99 rfl ?_
      refine v_icmpne (pc2 := 50) (pc3 := 41) C dX10_back_38 rfl rfl (fun h38 => ?_) (fun h38 => ?_)
      · have hres := (if_neg h38).symm.trans hres
        refine v_iload_n (pc2 := 51) C 0 dX10_back_50 rfl rfl ?_
        exact r_iS C E hres dX10_back_51
      · have hres := (if_pos h38).symm.trans hres
        refine v_aload_n (pc2 := 42) C 1 dX10_back_41 rfl rfl ?_
        refine v_ldc (pc2 := 44) C lc_X10_126 dX10_back_42 rfl ?_
        refine v_cVi (pc2 := 47) C kc_X10_120 (mX10_finding (xl X) Λ _ _ am2) (wd37 Λ _) rfl (by decide) rfl rfl (Nat.le_of_ble_eq_true rfl) dX10_back_44 rfl ?_
        refine v_goto (pc2 := 51) C dX10_back_47 rfl ?_
        exact r_iS C E hres dX10_back_51
    · have hres := (if_neg h19).symm.trans hres
      refine v_aload_n (pc2 := 23) C 0 dX10_back_22 rfl rfl ?_
      refine v_ldc (pc2 := 25) C lc_X10_130 dX10_back_23 rfl ?_
      refine v_cVi (pc2 := 28) C kc_X10_120 (mX10_finding (xl X) Λ _ _ am3) (wd37 Λ _) rfl (by decide) rfl rfl (Nat.le_of_ble_eq_true rfl) dX10_back_25 rfl ?_
      exact r_iS C E hres dX10_back_28
  · have hres := (if_pos h4).symm.trans hres
    refine v_aload_n (pc2 := 8) C 0 dX10_back_7 rfl rfl ?_
    refine v_ldc (pc2 := 10) C lc_X10_119 dX10_back_8 rfl ?_
    refine v_cVi (pc2 := 13) C kc_X10_120 (mX10_finding (xl X) Λ _ _ am1) (wd37 Λ _) rfl (by decide) rfl rfl (Nat.le_of_ble_eq_true rfl) dX10_back_10 rfl ?_
    exact r_iS C E hres dX10_back_13
theorem mX10_back (l : Launch) (Λ : LY) (σ : St) (a1 : Int32) (hs : Safe σ) : CT l Λ yX10_back cX10_back 3 (some .int) 6 164 [.ref (adr Λ 37), .int (a1)] σ (some (.int (f10_back σ a1).1)) (f10_back σ a1).2 := by
  refine CT_of (by decide +kernel) (Nat.le_of_ble_eq_true rfl) ?_
  intro X hX C E
  obtain ⟨res, hres⟩ : ∃ r, (f10_back σ a1) = r := ⟨_, rfl⟩
  rw [hres] at E
  exact bf10_back C E _ _  hs hres
def f10_unseen (σ : St) (a1 : Int32) (a2 : Int32) : Int32 :=
  (if (f10_isRow σ a1) = (0 : Int32) then (-1000000001 : Int32) else (if (f10_isHour a2) = (0 : Int32) then (-1000000001 : Int32) else (if (f10_isNight σ a2) = (0 : Int32) then (0 : Int32) else (-1000000002 : Int32))))
set_option maxHeartbeats 4000000 in
set_option maxRecDepth 100000 in
theorem bf10_unseen {X : CX} {Λ : LY} (C : OK X Λ cX10_unseen 3 RX10 2 43) {σ : St} {res : Int32} (E : EN X Λ (some .int) (some (.int res)) σ) (a1 : Int32) (a2 : Int32)  (hres : (f10_unseen σ a1 a2) = res) : VV X Λ 3 0 [(0, .ref (adr Λ 37)), (1, .int (a1)), (2, .int (a2))] [] σ := by
  unfold f10_unseen at hres
  refine v_aload_n (pc2 := 1) C 0 dX10_unseen_0 rfl rfl ?_
  refine v_iload_n (pc2 := 2) C 1 dX10_unseen_1 rfl rfl ?_
  refine v_cVi (pc2 := 5) C kc_X10_127 (mX10_isRow (xl X) Λ _ _) (wd37 Λ _) rfl (by decide) rfl rfl (Nat.le_of_ble_eq_true rfl) dX10_unseen_2 rfl ?_
  refine v_ifeq (pc2 := 15) (pc3 := 8) C dX10_unseen_5 rfl rfl (fun h5 => ?_) (fun h5 => ?_)
  · have hres := (if_pos h5).symm.trans hres
    refine v_ldc (pc2 := 17) C lc_X10_119 dX10_unseen_15 rfl ?_
    refine v_goto (pc2 := 34) C dX10_unseen_17 rfl ?_
    exact r_iP C E hres dX10_unseen_34
  · have hres := (if_neg h5).symm.trans hres
    refine v_iload_n (pc2 := 9) C 2 dX10_unseen_8 rfl rfl ?_
    refine v_cSi (pc2 := 12) C kc_X10_131 (mX10_isHour (xl X) Λ _ _) (by decide) rfl rfl (Nat.le_of_ble_eq_true rfl) dX10_unseen_9 rfl ?_
    refine v_ifne (pc2 := 20) (pc3 := 15) C dX10_unseen_12 rfl rfl (fun h12 => ?_) (fun h12 => ?_)
    · have hres := (if_neg h12).symm.trans hres
      refine v_aload_n (pc2 := 21) C 0 dX10_unseen_20 rfl rfl ?_
      refine v_iload_n (pc2 := 22) C 2 dX10_unseen_21 rfl rfl ?_
      refine v_cVi (pc2 := 25) C kc_X10_185 (mX10_isNight (xl X) Λ _ _ (mHour_in h12)) (wd37 Λ _) rfl (by decide) rfl rfl (Nat.le_of_ble_eq_true rfl) dX10_unseen_22 rfl ?_
      refine v_ifeq (pc2 := 33) (pc3 := 28) C dX10_unseen_25 rfl rfl (fun h25 => ?_) (fun h25 => ?_)
      · have hres := (if_pos h25).symm.trans hres
        refine v_iconst (pc2 := 34) C dX10_unseen_33 ki_0 rfl ?_
        exact r_iP C E hres dX10_unseen_34
      · have hres := (if_neg h25).symm.trans hres
        refine v_ldc (pc2 := 30) C lc_X10_126 dX10_unseen_28 rfl ?_
        refine v_goto (pc2 := 34) C dX10_unseen_30 rfl ?_
        exact r_iP C E hres dX10_unseen_34
    · have hres := (if_pos h12).symm.trans hres
      refine v_ldc (pc2 := 17) C lc_X10_119 dX10_unseen_15 rfl ?_
      refine v_goto (pc2 := 34) C dX10_unseen_17 rfl ?_
      exact r_iP C E hres dX10_unseen_34
theorem mX10_unseen (l : Launch) (Λ : LY) (σ : St) (a1 : Int32) (a2 : Int32)  : CT l Λ yX10_unseen cX10_unseen 3 (some .int) 2 43 [.ref (adr Λ 37), .int (a1), .int (a2)] σ (some (.int (f10_unseen σ a1 a2))) σ := by
  refine CT_of (by decide +kernel) (Nat.le_of_ble_eq_true rfl) ?_
  intro X hX C E
  obtain ⟨res, hres⟩ : ∃ r, (f10_unseen σ a1 a2) = r := ⟨_, rfl⟩
  rw [hres] at E
  exact bf10_unseen C E _ _   hres
theorem us_in {σ : St} {a b : Int32} (h : ¬ (0 : Int32) ≤ f10_unseen σ a b) : vp_in ((-1000000000 : Int32) - f10_unseen σ a b) 6 := by
  unfold f10_unseen at h ⊢
  repeat' split
  all_goals first | exact am1 | exact am2 | skip
  all_goals (exfalso; apply h; simp only [*, if_true, if_false]; decide)
theorem us_hour {σ : St} {a b : Int32} (h : (0 : Int32) ≤ f10_unseen σ a b) : vp_in b 24 := by
  unfold f10_unseen at h
  split at h
  · exact absurd h (by decide +kernel)
  · split at h
    · exact absurd h (by decide +kernel)
    · rename_i h2; exact mHour_in h2
theorem us_row {σ : St} {a b : Int32} (hs : Safe σ) (h : (0 : Int32) ≤ f10_unseen σ a b) : vp_in a 10 := by
  unfold f10_unseen at h
  split at h
  · exact absurd h (by decide +kernel)
  · rename_i h2; exact mRow_in hs h2
def f10_unlit (σ : St) (a1 : Int32) (a2 : Int32) : Int32 :=
  (if (0 : Int32) ≤ (f10_unseen σ a1 a2) then (if (f10_breadthOf σ a1 a2) ≤ (0 : Int64) then (-1000000003 : Int32) else (0 : Int32)) else (f10_unseen σ a1 a2))
set_option maxHeartbeats 4000000 in
set_option maxRecDepth 100000 in
theorem bf10_unlit {X : CX} {Λ : LY} (C : OK X Λ cX10_unlit 4 RX10 3 74) {σ : St} {res : Int32} (E : EN X Λ (some .int) (some (.int res)) σ) (a1 : Int32) (a2 : Int32) (hs : Safe σ) (hres : (f10_unlit σ a1 a2) = res) : VV X Λ 4 0 [(0, .ref (adr Λ 37)), (1, .int (a1)), (2, .int (a2))] [] σ := by
  unfold f10_unlit at hres
  refine v_aload_n (pc2 := 1) C 0 dX10_unlit_0 rfl rfl ?_
  refine v_iload_n (pc2 := 2) C 1 dX10_unlit_1 rfl rfl ?_
  refine v_iload_n (pc2 := 3) C 2 dX10_unlit_2 rfl rfl ?_
  refine v_cVi (pc2 := 6) C kc_X10_191 (mX10_unseen (xl X) Λ _ _ _) (wd37 Λ _) rfl (by decide) rfl rfl (Nat.le_of_ble_eq_true rfl) dX10_unlit_3 rfl ?_
  refine v_istore_n (pc2 := 7) (lv2 := [(3, _), (0, _), (1, _), (2, _)]) C dX10_unlit_6 (by decide) rfl rfl ?_
  refine v_iload_n (pc2 := 8) C 0 dX10_unlit_7 rfl rfl ?_
  refine v_ifge (pc2 := 15) (pc3 := 11) C dX10_unlit_8 rfl rfl (fun h8 => ?_) (fun h8 => ?_)
  · have hres := (if_pos h8).symm.trans hres
    refine v_aload_n (pc2 := 16) C 1 dX10_unlit_15 rfl rfl ?_
    refine v_iload_n (pc2 := 17) C 2 dX10_unlit_16 rfl rfl ?_
    refine v_iload_n (pc2 := 18) C 3 dX10_unlit_17 rfl rfl ?_
    refine v_cVl (pc2 := 21) C kc_X10_171 (mX10_breadthOf (xl X) Λ _ _ _ (us_row hs h8) (us_hour h8)) (wd37 Λ _) rfl (by decide) rfl rfl (Nat.le_of_ble_eq_true rfl) dX10_unlit_18 rfl ?_
    refine v_lconst (pc2 := 22) C dX10_unlit_21 kl_0 rfl ?_
    refine v_lcle (pc2 := 30) (pc3 := 26) C dX10_unlit_22 dX10_unlit_23 rfl rfl (fun h22 => ?_) (fun h22 => ?_)
    · have hres := (if_pos h22).symm.trans hres
      refine v_ldc (pc2 := 32) C lc_X10_130 dX10_unlit_30 rfl ?_
      exact r_iP C E hres dX10_unlit_32
    · have hres := (if_neg h22).symm.trans hres
      refine v_iconst (pc2 := 27) C dX10_unlit_26 ki_0 rfl ?_
      refine v_goto (pc2 := 32) C dX10_unlit_27 rfl ?_
      exact r_iP C E hres dX10_unlit_32
  · have hres := (if_neg h8).symm.trans hres
    refine v_iload_n (pc2 := 12) C 0 dX10_unlit_11 rfl rfl ?_
    refine v_goto (pc2 := 32) C dX10_unlit_12 rfl ?_
    exact r_iP C E hres dX10_unlit_32
theorem mX10_unlit (l : Launch) (Λ : LY) (σ : St) (a1 : Int32) (a2 : Int32) (hs : Safe σ) : CT l Λ yX10_unlit cX10_unlit 4 (some .int) 3 74 [.ref (adr Λ 37), .int (a1), .int (a2)] σ (some (.int (f10_unlit σ a1 a2))) σ := by
  refine CT_of (by decide +kernel) (Nat.le_of_ble_eq_true rfl) ?_
  intro X hX C E
  obtain ⟨res, hres⟩ : ∃ r, (f10_unlit σ a1 a2) = r := ⟨_, rfl⟩
  rw [hres] at E
  exact bf10_unlit C E _ _  hs hres
theorem ul_us {σ : St} {a b : Int32} (h : (0 : Int32) ≤ f10_unlit σ a b) : (0 : Int32) ≤ f10_unseen σ a b := by
  unfold f10_unlit at h
  split at h
  · assumption
  · exact h
theorem ul_hour {σ : St} {a b : Int32} (h : (0 : Int32) ≤ f10_unlit σ a b) : vp_in b 24 := us_hour (ul_us h)
theorem ul_row {σ : St} {a b : Int32} (hs : Safe σ) (h : (0 : Int32) ≤ f10_unlit σ a b) : vp_in a 10 := us_row hs (ul_us h)
theorem ul_in {σ : St} {a b : Int32} (h : ¬ (0 : Int32) ≤ f10_unlit σ a b) : vp_in ((-1000000000 : Int32) - f10_unlit σ a b) 6 := by
  unfold f10_unlit at h ⊢
  split
  · rename_i h1
    rw [if_pos h1] at h
    split
    · exact am3
    · rename_i h2
      rw [if_neg h2] at h
      exact absurd (by decide) h
  · rename_i h1; exact us_in h1
def f10_breadth (σ : St) (a1 : Int32) (a2 : Int32) : Int64 × St :=
  (if (0 : Int32) ≤ (f10_unseen σ a1 a2) then ((f10_breadthOf σ a1 a2), σ) else ((Int32.toInt64 ((f10_finding σ (f10_unseen σ a1 a2)).1)), ((f10_finding σ (f10_unseen σ a1 a2)).2)))
set_option maxHeartbeats 4000000 in
set_option maxRecDepth 100000 in
theorem bf10_breadth {X : CX} {Λ : LY} (C : OK X Λ cX10_breadth 4 RX10 3 74) {res : Int64 × St} (E : EN X Λ (some .long) (some (.long res.1)) res.2) (σ : St) (a1 : Int32) (a2 : Int32) (hs : Safe σ) (hres : (f10_breadth σ a1 a2) = res) : VV X Λ 4 0 [(0, .ref (adr Λ 37)), (1, .int (a1)), (2, .int (a2))] [] σ := by
  unfold f10_breadth at hres
  refine v_aload_n (pc2 := 1) C 0 dX10_breadth_0 rfl rfl ?_
  refine v_iload_n (pc2 := 2) C 1 dX10_breadth_1 rfl rfl ?_
  refine v_iload_n (pc2 := 3) C 2 dX10_breadth_2 rfl rfl ?_
  refine v_cVi (pc2 := 6) C kc_X10_191 (mX10_unseen (xl X) Λ _ _ _) (wd37 Λ _) rfl (by decide) rfl rfl (Nat.le_of_ble_eq_true rfl) dX10_breadth_3 rfl ?_
  refine v_istore_n (pc2 := 7) (lv2 := [(3, _), (0, _), (1, _), (2, _)]) C dX10_breadth_6 (by decide) rfl rfl ?_
  refine v_iload_n (pc2 := 8) C 0 dX10_breadth_7 rfl rfl ?_
  refine v_ifge (pc2 := 20) (pc3 := 11) C dX10_breadth_8 rfl rfl (fun h8 => ?_) (fun h8 => ?_)
  · have hres := (if_pos h8).symm.trans hres
    refine v_aload_n (pc2 := 21) C 1 dX10_breadth_20 rfl rfl ?_
    refine v_iload_n (pc2 := 22) C 2 dX10_breadth_21 rfl rfl ?_
    refine v_iload_n (pc2 := 23) C 3 dX10_breadth_22 rfl rfl ?_
    refine v_cVl (pc2 := 26) C kc_X10_171 (mX10_breadthOf (xl X) Λ _ _ _ (us_row hs h8) (us_hour h8)) (wd37 Λ _) rfl (by decide) rfl rfl (Nat.le_of_ble_eq_true rfl) dX10_breadth_23 rfl ?_
    exact r_lS C E hres dX10_breadth_26
  · have hres := (if_neg h8).symm.trans hres
    refine v_aload_n (pc2 := 12) C 1 dX10_breadth_11 rfl rfl ?_
    refine v_iload_n (pc2 := 13) C 0 dX10_breadth_12 rfl rfl ?_
    refine v_cVi (pc2 := 16) C kc_X10_120 (mX10_finding (xl X) Λ _ _ (us_in h8)) (wd37 Λ _) rfl (by decide) rfl rfl (Nat.le_of_ble_eq_true rfl) dX10_breadth_13 rfl ?_
    refine v_i2l (pc2 := 17) C dX10_breadth_16 rfl ?_
    refine v_goto (pc2 := 26) C dX10_breadth_17 rfl ?_
    exact r_lS C E hres dX10_breadth_26
theorem mX10_breadth (l : Launch) (Λ : LY) (σ : St) (a1 : Int32) (a2 : Int32) (hs : Safe σ) : CT l Λ yX10_breadth cX10_breadth 4 (some .long) 3 74 [.ref (adr Λ 37), .int (a1), .int (a2)] σ (some (.long (f10_breadth σ a1 a2).1)) (f10_breadth σ a1 a2).2 := by
  refine CT_of (by decide +kernel) (Nat.le_of_ble_eq_true rfl) ?_
  intro X hX C E
  obtain ⟨res, hres⟩ : ∃ r, (f10_breadth σ a1 a2) = r := ⟨_, rfl⟩
  rw [hres] at E
  exact bf10_breadth C E _ _ _  hs hres
def f10_shade (σ : St) (a1 : Int32) (a2 : Int32) : Int64 × St :=
  (if (0 : Int32) ≤ (f10_unlit σ a1 a2) then ((f10_shadeOf σ a1 a2), σ) else ((Int32.toInt64 ((f10_finding σ (f10_unlit σ a1 a2)).1)), ((f10_finding σ (f10_unlit σ a1 a2)).2)))
set_option maxHeartbeats 4000000 in
set_option maxRecDepth 100000 in
theorem bf10_shade {X : CX} {Λ : LY} (C : OK X Λ cX10_shade 4 RX10 4 117) {res : Int64 × St} (E : EN X Λ (some .long) (some (.long res.1)) res.2) (σ : St) (a1 : Int32) (a2 : Int32) (hs : Safe σ) (hres : (f10_shade σ a1 a2) = res) : VV X Λ 4 0 [(0, .ref (adr Λ 37)), (1, .int (a1)), (2, .int (a2))] [] σ := by
  unfold f10_shade at hres
  refine v_aload_n (pc2 := 1) C 0 dX10_shade_0 rfl rfl ?_
  refine v_iload_n (pc2 := 2) C 1 dX10_shade_1 rfl rfl ?_
  refine v_iload_n (pc2 := 3) C 2 dX10_shade_2 rfl rfl ?_
  refine v_cVi (pc2 := 6) C kc_X10_195 (mX10_unlit (xl X) Λ _ _ _ hs) (wd37 Λ _) rfl (by decide) rfl rfl (Nat.le_of_ble_eq_true rfl) dX10_shade_3 rfl ?_
  refine v_istore_n (pc2 := 7) (lv2 := [(3, _), (0, _), (1, _), (2, _)]) C dX10_shade_6 (by decide) rfl rfl ?_
  refine v_iload_n (pc2 := 8) C 0 dX10_shade_7 rfl rfl ?_
  refine v_ifge (pc2 := 20) (pc3 := 11) C dX10_shade_8 rfl rfl (fun h8 => ?_) (fun h8 => ?_)
  · have hres := (if_pos h8).symm.trans hres
    refine v_aload_n (pc2 := 21) C 1 dX10_shade_20 rfl rfl ?_
    refine v_iload_n (pc2 := 22) C 2 dX10_shade_21 rfl rfl ?_
    refine v_iload_n (pc2 := 23) C 3 dX10_shade_22 rfl rfl ?_
    refine v_cVl (pc2 := 26) C kc_X10_175 (mX10_shadeOf (xl X) Λ _ _ _ hs (ul_row hs h8) (ul_hour h8)) (wd37 Λ _) rfl (by decide) rfl rfl (Nat.le_of_ble_eq_true rfl) dX10_shade_23 rfl ?_
    exact r_lS C E hres dX10_shade_26
  · have hres := (if_neg h8).symm.trans hres
    refine v_aload_n (pc2 := 12) C 1 dX10_shade_11 rfl rfl ?_
    refine v_iload_n (pc2 := 13) C 0 dX10_shade_12 rfl rfl ?_
    refine v_cVi (pc2 := 16) C kc_X10_120 (mX10_finding (xl X) Λ _ _ (ul_in h8)) (wd37 Λ _) rfl (by decide) rfl rfl (Nat.le_of_ble_eq_true rfl) dX10_shade_13 rfl ?_
    refine v_i2l (pc2 := 17) C dX10_shade_16 rfl ?_
    refine v_goto (pc2 := 26) C dX10_shade_17 rfl ?_
    exact r_lS C E hres dX10_shade_26
theorem mX10_shade (l : Launch) (Λ : LY) (σ : St) (a1 : Int32) (a2 : Int32) (hs : Safe σ) : CT l Λ yX10_shade cX10_shade 4 (some .long) 4 117 [.ref (adr Λ 37), .int (a1), .int (a2)] σ (some (.long (f10_shade σ a1 a2).1)) (f10_shade σ a1 a2).2 := by
  refine CT_of (by decide +kernel) (Nat.le_of_ble_eq_true rfl) ?_
  intro X hX C E
  obtain ⟨res, hres⟩ : ∃ r, (f10_shade σ a1 a2) = r := ⟨_, rfl⟩
  rw [hres] at E
  exact bf10_shade C E _ _ _  hs hres
def f10_dark (σ : St) (a1 : Int32) (a2 : Int32) : Int32 × St :=
  (if (0 : Int32) ≤ (f10_unlit σ a1 a2) then ((f10_darkOf σ a1 a2), σ) else (((f10_finding σ (f10_unlit σ a1 a2)).1), ((f10_finding σ (f10_unlit σ a1 a2)).2)))
set_option maxHeartbeats 4000000 in
set_option maxRecDepth 100000 in
theorem bf10_dark {X : CX} {Λ : LY} (C : OK X Λ cX10_dark 4 RX10 4 123) {res : Int32 × St} (E : EN X Λ (some .int) (some (.int res.1)) res.2) (σ : St) (a1 : Int32) (a2 : Int32) (hs : Safe σ) (hres : (f10_dark σ a1 a2) = res) : VV X Λ 4 0 [(0, .ref (adr Λ 37)), (1, .int (a1)), (2, .int (a2))] [] σ := by
  unfold f10_dark at hres
  refine v_aload_n (pc2 := 1) C 0 dX10_dark_0 rfl rfl ?_
  refine v_iload_n (pc2 := 2) C 1 dX10_dark_1 rfl rfl ?_
  refine v_iload_n (pc2 := 3) C 2 dX10_dark_2 rfl rfl ?_
  refine v_cVi (pc2 := 6) C kc_X10_195 (mX10_unlit (xl X) Λ _ _ _ hs) (wd37 Λ _) rfl (by decide) rfl rfl (Nat.le_of_ble_eq_true rfl) dX10_dark_3 rfl ?_
  refine v_istore_n (pc2 := 7) (lv2 := [(3, _), (0, _), (1, _), (2, _)]) C dX10_dark_6 (by decide) rfl rfl ?_
  refine v_iload_n (pc2 := 8) C 0 dX10_dark_7 rfl rfl ?_
  refine v_ifge (pc2 := 19) (pc3 := 11) C dX10_dark_8 rfl rfl (fun h8 => ?_) (fun h8 => ?_)
  · have hres := (if_pos h8).symm.trans hres
    refine v_aload_n (pc2 := 20) C 1 dX10_dark_19 rfl rfl ?_
    refine v_iload_n (pc2 := 21) C 2 dX10_dark_20 rfl rfl ?_
    refine v_iload_n (pc2 := 22) C 3 dX10_dark_21 rfl rfl ?_
    refine v_cVi (pc2 := 25) C kc_X10_198 (mX10_darkOf (xl X) Λ _ _ _ hs (ul_row hs h8) (ul_hour h8)) (wd37 Λ _) rfl (by decide) rfl rfl (Nat.le_of_ble_eq_true rfl) dX10_dark_22 rfl ?_
    exact r_iS C E hres dX10_dark_25
  · have hres := (if_neg h8).symm.trans hres
    refine v_aload_n (pc2 := 12) C 1 dX10_dark_11 rfl rfl ?_
    refine v_iload_n (pc2 := 13) C 0 dX10_dark_12 rfl rfl ?_
    refine v_cVi (pc2 := 16) C kc_X10_120 (mX10_finding (xl X) Λ _ _ (ul_in h8)) (wd37 Λ _) rfl (by decide) rfl rfl (Nat.le_of_ble_eq_true rfl) dX10_dark_13 rfl ?_
    refine v_goto (pc2 := 25) C dX10_dark_16 rfl ?_
    exact r_iS C E hres dX10_dark_25
theorem mX10_dark (l : Launch) (Λ : LY) (σ : St) (a1 : Int32) (a2 : Int32) (hs : Safe σ) : CT l Λ yX10_dark cX10_dark 4 (some .int) 4 123 [.ref (adr Λ 37), .int (a1), .int (a2)] σ (some (.int (f10_dark σ a1 a2).1)) (f10_dark σ a1 a2).2 := by
  refine CT_of (by decide +kernel) (Nat.le_of_ble_eq_true rfl) ?_
  intro X hX C E
  obtain ⟨res, hres⟩ : ∃ r, (f10_dark σ a1 a2) = r := ⟨_, rfl⟩
  rw [hres] at E
  exact bf10_dark C E _ _ _  hs hres
def f10_string (σ : St) (a1 : Int32) (a2 : Int32) : Int32 × St :=
  (if (f10_isRow σ a1) = (0 : Int32) then (((f10_finding σ (-1000000001 : Int32)).1), ((f10_finding σ (-1000000001 : Int32)).2)) else (if a2 = (-1 : Int32) then ((gA σ 26 (Int32.toNatClampNeg a1)), (uA σ 26 (Int32.toNatClampNeg a1) a2)) else (if (f10_isString a2) = (0 : Int32) then (((f10_finding σ (-1000000001 : Int32)).1), ((f10_finding σ (-1000000001 : Int32)).2)) else ((gA σ 26 (Int32.toNatClampNeg a1)), (uA σ 26 (Int32.toNatClampNeg a1) a2)))))
set_option maxHeartbeats 4000000 in
set_option maxRecDepth 100000 in
theorem bf10_string {X : CX} {Λ : LY} (C : OK X Λ cX10_string 4 RX10 2 43) {res : Int32 × St} (E : EN X Λ (some .int) (some (.int res.1)) res.2) (σ : St) (a1 : Int32) (a2 : Int32) (hs : Safe σ) (hres : (f10_string σ a1 a2) = res) : VV X Λ 4 0 [(0, .ref (adr Λ 37)), (1, .int (a1)), (2, .int (a2))] [] σ := by
  unfold f10_string at hres
  refine v_aload_n (pc2 := 1) C 0 dX10_string_0 rfl rfl ?_
  refine v_iload_n (pc2 := 2) C 1 dX10_string_1 rfl rfl ?_
  refine v_cVi (pc2 := 5) C kc_X10_127 (mX10_isRow (xl X) Λ _ _) (wd37 Λ _) rfl (by decide) rfl rfl (Nat.le_of_ble_eq_true rfl) dX10_string_2 rfl ?_
  refine v_ifeq (pc2 := 20) (pc3 := 8) C dX10_string_5 rfl rfl (fun h5 => ?_) (fun h5 => ?_)
  · have hres := (if_pos h5).symm.trans hres
    refine v_aload_n (pc2 := 21) C 0 dX10_string_20 rfl rfl ?_
    refine v_ldc (pc2 := 23) C lc_X10_119 dX10_string_21 rfl ?_
    refine v_cVi (pc2 := 26) C kc_X10_120 (mX10_finding (xl X) Λ _ _ am1) (wd37 Λ _) rfl (by decide) rfl rfl (Nat.le_of_ble_eq_true rfl) dX10_string_23 rfl ?_
    exact r_iS C E hres dX10_string_26
  · have hres := (if_neg h5).symm.trans hres
    refine v_iload_n (pc2 := 9) C 2 dX10_string_8 rfl rfl ?_
    refine v_iconst (pc2 := 10) C dX10_string_9 ki_m1 rfl ?_
    refine v_icmpeq (pc2 := 27) (pc3 := 13) C dX10_string_10 rfl rfl (fun h10 => ?_) (fun h10 => ?_)
    · have hres := (if_pos h10).symm.trans hres
      refine v_aload_n (pc2 := 28) C 0 dX10_string_27 rfl rfl ?_
      refine vg_X10_stringOf (pc2 := 31) C lf_X10_28 dX10_string_28 rfl ?_
      refine v_iload_n (pc2 := 32) C 1 dX10_string_31 rfl rfl ?_
      refine al44 (pc2 := 33) C (mRow_in hs h5) dX10_string_32 rfl ?_
      refine v_istore_n (pc2 := 34) (lv2 := [(3, _), (0, _), (1, _), (2, _)]) C dX10_string_33 (by decide) rfl rfl ?_
      refine v_aload_n (pc2 := 35) C 1 dX10_string_34 rfl rfl ?_
      refine vg_X10_stringOf (pc2 := 38) C lf_X10_28 dX10_string_35 rfl ?_
      refine v_iload_n (pc2 := 39) C 2 dX10_string_38 rfl rfl ?_
      refine v_iload_n (pc2 := 40) C 3 dX10_string_39 rfl rfl ?_
      refine as44 (pc2 := 41) C (mRow_in hs h5) dX10_string_40 rfl ?_
      refine v_iload_n (pc2 := 42) C 0 dX10_string_41 rfl rfl ?_
      exact r_iS C E hres dX10_string_42
    · have hres := (if_neg h10).symm.trans hres
      refine v_iload_n (pc2 := 14) C 2 dX10_string_13 rfl rfl ?_
      refine v_cSi (pc2 := 17) C kc_X10_201 (mX10_isString (xl X) Λ _ _) (by decide) rfl rfl (Nat.le_of_ble_eq_true rfl) dX10_string_14 rfl ?_
      refine v_ifne (pc2 := 27) (pc3 := 20) C dX10_string_17 rfl rfl (fun h17 => ?_) (fun h17 => ?_)
      · have hres := (if_neg h17).symm.trans hres
        refine v_aload_n (pc2 := 28) C 0 dX10_string_27 rfl rfl ?_
        refine vg_X10_stringOf (pc2 := 31) C lf_X10_28 dX10_string_28 rfl ?_
        refine v_iload_n (pc2 := 32) C 1 dX10_string_31 rfl rfl ?_
        refine al44 (pc2 := 33) C (mRow_in hs h5) dX10_string_32 rfl ?_
        refine v_istore_n (pc2 := 34) (lv2 := [(3, _), (0, _), (1, _), (2, _)]) C dX10_string_33 (by decide) rfl rfl ?_
        refine v_aload_n (pc2 := 35) C 1 dX10_string_34 rfl rfl ?_
        refine vg_X10_stringOf (pc2 := 38) C lf_X10_28 dX10_string_35 rfl ?_
        refine v_iload_n (pc2 := 39) C 2 dX10_string_38 rfl rfl ?_
        refine v_iload_n (pc2 := 40) C 3 dX10_string_39 rfl rfl ?_
        refine as44 (pc2 := 41) C (mRow_in hs h5) dX10_string_40 rfl ?_
        refine v_iload_n (pc2 := 42) C 0 dX10_string_41 rfl rfl ?_
        exact r_iS C E hres dX10_string_42
      · have hres := (if_pos h17).symm.trans hres
        refine v_aload_n (pc2 := 21) C 0 dX10_string_20 rfl rfl ?_
        refine v_ldc (pc2 := 23) C lc_X10_119 dX10_string_21 rfl ?_
        refine v_cVi (pc2 := 26) C kc_X10_120 (mX10_finding (xl X) Λ _ _ am1) (wd37 Λ _) rfl (by decide) rfl rfl (Nat.le_of_ble_eq_true rfl) dX10_string_23 rfl ?_
        exact r_iS C E hres dX10_string_26
theorem mX10_string (l : Launch) (Λ : LY) (σ : St) (a1 : Int32) (a2 : Int32) (hs : Safe σ) : CT l Λ yX10_string cX10_string 4 (some .int) 2 43 [.ref (adr Λ 37), .int (a1), .int (a2)] σ (some (.int (f10_string σ a1 a2).1)) (f10_string σ a1 a2).2 := by
  refine CT_of (by decide +kernel) (Nat.le_of_ble_eq_true rfl) ?_
  intro X hX C E
  obtain ⟨res, hres⟩ : ∃ r, (f10_string σ a1 a2) = r := ⟨_, rfl⟩
  rw [hres] at E
  exact bf10_string C E _ _ _  hs hres
def f10_ceiling (σ : St) (a1 : Int32) (a2 : Int32) : Int32 × St :=
  (if (f10_isString a1) = (0 : Int32) then (((f10_finding σ (-1000000001 : Int32)).1), ((f10_finding σ (-1000000001 : Int32)).2)) else (if (f10_in a2 (0 : Int32) (1000000 : Int32)) = (0 : Int32) then (((f10_finding σ (-1000000001 : Int32)).1), ((f10_finding σ (-1000000001 : Int32)).2)) else ((gA σ 31 (Int32.toNatClampNeg a1)), (uA σ 31 (Int32.toNatClampNeg a1) a2))))
set_option maxHeartbeats 4000000 in
set_option maxRecDepth 100000 in
theorem bf10_ceiling {X : CX} {Λ : LY} (C : OK X Λ cX10_ceiling 4 RX10 2 42) {res : Int32 × St} (E : EN X Λ (some .int) (some (.int res.1)) res.2) (σ : St) (a1 : Int32) (a2 : Int32)  (hres : (f10_ceiling σ a1 a2) = res) : VV X Λ 4 0 [(0, .ref (adr Λ 37)), (1, .int (a1)), (2, .int (a2))] [] σ := by
  unfold f10_ceiling at hres
  refine v_iload_n (pc2 := 1) C 1 dX10_ceiling_0 rfl rfl ?_
  refine v_cSi (pc2 := 4) C kc_X10_201 (mX10_isString (xl X) Λ _ _) (by decide) rfl rfl (Nat.le_of_ble_eq_true rfl) dX10_ceiling_1 rfl ?_
  refine v_ifeq (pc2 := 17) (pc3 := 7) C dX10_ceiling_4 rfl rfl (fun h4 => ?_) (fun h4 => ?_)
  · have hres := (if_pos h4).symm.trans hres
    refine v_aload_n (pc2 := 18) C 0 dX10_ceiling_17 rfl rfl ?_
    refine v_ldc (pc2 := 20) C lc_X10_119 dX10_ceiling_18 rfl ?_
    refine v_cVi (pc2 := 23) C kc_X10_120 (mX10_finding (xl X) Λ _ _ am1) (wd37 Λ _) rfl (by decide) rfl rfl (Nat.le_of_ble_eq_true rfl) dX10_ceiling_20 rfl ?_
    exact r_iS C E hres dX10_ceiling_23
  · have hres := (if_neg h4).symm.trans hres
    refine v_iload_n (pc2 := 8) C 2 dX10_ceiling_7 rfl rfl ?_
    refine v_iconst (pc2 := 9) C dX10_ceiling_8 ki_0 rfl ?_
    refine v_ldc (pc2 := 11) C lc_X10_70 dX10_ceiling_9 rfl ?_
    refine v_cSi (pc2 := 14) C kc_X10_75 (mX10_in (xl X) Λ _ _ _ _) (by decide) rfl rfl (Nat.le_of_ble_eq_true rfl) dX10_ceiling_11 rfl ?_
    refine v_ifne (pc2 := 24) (pc3 := 17) C dX10_ceiling_14 rfl rfl (fun h14 => ?_) (fun h14 => ?_)
    · have hres := (if_neg h14).symm.trans hres
      refine v_aload_n (pc2 := 25) C 0 dX10_ceiling_24 rfl rfl ?_
      refine vg_X10_ceilings (pc2 := 28) C lf_X10_44 dX10_ceiling_25 rfl ?_
      refine v_iload_n (pc2 := 29) C 1 dX10_ceiling_28 rfl rfl ?_
      refine al49 (pc2 := 30) C (mString_in h4) dX10_ceiling_29 rfl ?_
      refine v_istore_n (pc2 := 31) (lv2 := [(3, _), (0, _), (1, _), (2, _)]) C dX10_ceiling_30 (by decide) rfl rfl ?_
      refine v_aload_n (pc2 := 32) C 1 dX10_ceiling_31 rfl rfl ?_
      refine vg_X10_ceilings (pc2 := 35) C lf_X10_44 dX10_ceiling_32 rfl ?_
      refine v_iload_n (pc2 := 36) C 2 dX10_ceiling_35 rfl rfl ?_
      refine v_iload_n (pc2 := 37) C 3 dX10_ceiling_36 rfl rfl ?_
      refine as49 (pc2 := 38) C (mString_in h4) dX10_ceiling_37 rfl ?_
      refine v_iload_n (pc2 := 39) C 0 dX10_ceiling_38 rfl rfl ?_
      exact r_iS C E hres dX10_ceiling_39
    · have hres := (if_pos h14).symm.trans hres
      refine v_aload_n (pc2 := 18) C 0 dX10_ceiling_17 rfl rfl ?_
      refine v_ldc (pc2 := 20) C lc_X10_119 dX10_ceiling_18 rfl ?_
      refine v_cVi (pc2 := 23) C kc_X10_120 (mX10_finding (xl X) Λ _ _ am1) (wd37 Λ _) rfl (by decide) rfl rfl (Nat.le_of_ble_eq_true rfl) dX10_ceiling_20 rfl ?_
      exact r_iS C E hres dX10_ceiling_23
theorem mX10_ceiling (l : Launch) (Λ : LY) (σ : St) (a1 : Int32) (a2 : Int32)  : CT l Λ yX10_ceiling cX10_ceiling 4 (some .int) 2 42 [.ref (adr Λ 37), .int (a1), .int (a2)] σ (some (.int (f10_ceiling σ a1 a2).1)) (f10_ceiling σ a1 a2).2 := by
  refine CT_of (by decide +kernel) (Nat.le_of_ble_eq_true rfl) ?_
  intro X hX C E
  obtain ⟨res, hres⟩ : ∃ r, (f10_ceiling σ a1 a2) = r := ⟨_, rfl⟩
  rw [hres] at E
  exact bf10_ceiling C E _ _ _   hres
def f10_current (σ : St) (a1 : Int32) (a2 : Int32) : Int32 × St :=
  (if (0 : Int32) ≤ (f10_unseen σ a1 a2) then ((Int64.toInt32 (f10_currentOf σ a1 a2)), σ) else (((f10_finding σ (f10_unseen σ a1 a2)).1), ((f10_finding σ (f10_unseen σ a1 a2)).2)))
set_option maxHeartbeats 4000000 in
set_option maxRecDepth 100000 in
theorem bf10_current {X : CX} {Λ : LY} (C : OK X Λ cX10_current 4 RX10 7 193) {res : Int32 × St} (E : EN X Λ (some .int) (some (.int res.1)) res.2) (σ : St) (a1 : Int32) (a2 : Int32) (hs : Safe σ) (hres : (f10_current σ a1 a2) = res) : VV X Λ 4 0 [(0, .ref (adr Λ 37)), (1, .int (a1)), (2, .int (a2))] [] σ := by
  unfold f10_current at hres
  refine v_aload_n (pc2 := 1) C 0 dX10_current_0 rfl rfl ?_
  refine v_iload_n (pc2 := 2) C 1 dX10_current_1 rfl rfl ?_
  refine v_iload_n (pc2 := 3) C 2 dX10_current_2 rfl rfl ?_
  refine v_cVi (pc2 := 6) C kc_X10_191 (mX10_unseen (xl X) Λ _ _ _) (wd37 Λ _) rfl (by decide) rfl rfl (Nat.le_of_ble_eq_true rfl) dX10_current_3 rfl ?_
  refine v_istore_n (pc2 := 7) (lv2 := [(3, _), (0, _), (1, _), (2, _)]) C dX10_current_6 (by decide) rfl rfl ?_
  refine v_iload_n (pc2 := 8) C 0 dX10_current_7 rfl rfl ?_
  refine v_ifge (pc2 := 19) (pc3 := 11) C dX10_current_8 rfl rfl (fun h8 => ?_) (fun h8 => ?_)
  · have hres := (if_pos h8).symm.trans hres
    refine v_aload_n (pc2 := 20) C 1 dX10_current_19 rfl rfl ?_
    refine v_iload_n (pc2 := 21) C 2 dX10_current_20 rfl rfl ?_
    refine v_iload_n (pc2 := 22) C 3 dX10_current_21 rfl rfl ?_
    refine v_cVl (pc2 := 25) C kc_X10_214 (mX10_currentOf (xl X) Λ _ _ _ hs (us_row hs h8) (us_hour h8)) (wd37 Λ _) rfl (by decide) rfl rfl (Nat.le_of_ble_eq_true rfl) dX10_current_22 rfl ?_
    refine v_l2i (pc2 := 26) C dX10_current_25 rfl ?_
    exact r_iS C E hres dX10_current_26
  · have hres := (if_neg h8).symm.trans hres
    refine v_aload_n (pc2 := 12) C 1 dX10_current_11 rfl rfl ?_
    refine v_iload_n (pc2 := 13) C 0 dX10_current_12 rfl rfl ?_
    refine v_cVi (pc2 := 16) C kc_X10_120 (mX10_finding (xl X) Λ _ _ (us_in h8)) (wd37 Λ _) rfl (by decide) rfl rfl (Nat.le_of_ble_eq_true rfl) dX10_current_13 rfl ?_
    refine v_goto (pc2 := 26) C dX10_current_16 rfl ?_
    exact r_iS C E hres dX10_current_26
theorem mX10_current (l : Launch) (Λ : LY) (σ : St) (a1 : Int32) (a2 : Int32) (hs : Safe σ) : CT l Λ yX10_current cX10_current 4 (some .int) 7 193 [.ref (adr Λ 37), .int (a1), .int (a2)] σ (some (.int (f10_current σ a1 a2).1)) (f10_current σ a1 a2).2 := by
  refine CT_of (by decide +kernel) (Nat.le_of_ble_eq_true rfl) ?_
  intro X hX C E
  obtain ⟨res, hres⟩ : ∃ r, (f10_current σ a1 a2) = r := ⟨_, rfl⟩
  rw [hres] at E
  exact bf10_current C E _ _ _  hs hres
def f10_gives (σ : St) (a1 : Int32) (a2 : Int32) : Int32 × St :=
  (if (f10_isString a1) = (0 : Int32) then (((f10_finding σ (-1000000001 : Int32)).1), ((f10_finding σ (-1000000001 : Int32)).2)) else (if (f10_isHour a2) = (0 : Int32) then (((f10_finding σ (-1000000001 : Int32)).1), ((f10_finding σ (-1000000001 : Int32)).2)) else (if (f10_isNight σ a2) = (0 : Int32) then ((Int64.toInt32 ((f10_givesOf σ a1 a2).1)), ((f10_givesOf σ a1 a2).2)) else (((f10_finding σ (-1000000002 : Int32)).1), ((f10_finding σ (-1000000002 : Int32)).2)))))
set_option maxHeartbeats 4000000 in
set_option maxRecDepth 100000 in
theorem bf10_gives {X : CX} {Λ : LY} (C : OK X Λ cX10_gives 3 RX10 8 220) {res : Int32 × St} (E : EN X Λ (some .int) (some (.int res.1)) res.2) (σ : St) (a1 : Int32) (a2 : Int32) (hs : Safe σ) (hres : (f10_gives σ a1 a2) = res) : VV X Λ 3 0 [(0, .ref (adr Λ 37)), (1, .int (a1)), (2, .int (a2))] [] σ := by
  unfold f10_gives at hres
  refine v_iload_n (pc2 := 1) C 1 dX10_gives_0 rfl rfl ?_
  refine v_cSi (pc2 := 4) C kc_X10_201 (mX10_isString (xl X) Λ _ _) (by decide) rfl rfl (Nat.le_of_ble_eq_true rfl) dX10_gives_1 rfl ?_
  refine v_ifeq (pc2 := 14) (pc3 := 7) C dX10_gives_4 rfl rfl (fun h4 => ?_) (fun h4 => ?_)
  · have hres := (if_pos h4).symm.trans hres
    refine v_aload_n (pc2 := 15) C 0 dX10_gives_14 rfl rfl ?_
    refine v_ldc (pc2 := 17) C lc_X10_119 dX10_gives_15 rfl ?_
    refine v_cVi (pc2 := 20) C kc_X10_120 (mX10_finding (xl X) Λ _ _ am1) (wd37 Λ _) rfl (by decide) rfl rfl (Nat.le_of_ble_eq_true rfl) dX10_gives_17 rfl ?_
    exact r_iS C E hres dX10_gives_20
  · have hres := (if_neg h4).symm.trans hres
    refine v_iload_n (pc2 := 8) C 2 dX10_gives_7 rfl rfl ?_
    refine v_cSi (pc2 := 11) C kc_X10_131 (mX10_isHour (xl X) Λ _ _) (by decide) rfl rfl (Nat.le_of_ble_eq_true rfl) dX10_gives_8 rfl ?_
    refine v_ifne (pc2 := 21) (pc3 := 14) C dX10_gives_11 rfl rfl (fun h11 => ?_) (fun h11 => ?_)
    · have hres := (if_neg h11).symm.trans hres
      refine v_aload_n (pc2 := 22) C 0 dX10_gives_21 rfl rfl ?_
      refine v_iload_n (pc2 := 23) C 2 dX10_gives_22 rfl rfl ?_
      refine v_cVi (pc2 := 26) C kc_X10_185 (mX10_isNight (xl X) Λ _ _ (mHour_in h11)) (wd37 Λ _) rfl (by decide) rfl rfl (Nat.le_of_ble_eq_true rfl) dX10_gives_23 rfl ?_
      refine v_ifeq (pc2 := 38) (pc3 := 29) C dX10_gives_26 rfl rfl (fun h26 => ?_) (fun h26 => ?_)
      · have hres := (if_pos h26).symm.trans hres
        refine v_aload_n (pc2 := 39) C 0 dX10_gives_38 rfl rfl ?_
        refine v_iload_n (pc2 := 40) C 1 dX10_gives_39 rfl rfl ?_
        refine v_iload_n (pc2 := 41) C 2 dX10_gives_40 rfl rfl ?_
        refine v_cVl (pc2 := 44) C kc_X10_217 (mX10_givesOf (xl X) Λ _ _ _ hs (mHour_in h11)) (wd37 Λ _) rfl (by decide) rfl rfl (Nat.le_of_ble_eq_true rfl) dX10_gives_41 rfl ?_
        refine v_l2i (pc2 := 45) C dX10_gives_44 rfl ?_
        exact r_iS C E hres dX10_gives_45
      · have hres := (if_neg h26).symm.trans hres
        refine v_aload_n (pc2 := 30) C 0 dX10_gives_29 rfl rfl ?_
        refine v_ldc (pc2 := 32) C lc_X10_126 dX10_gives_30 rfl ?_
        refine v_cVi (pc2 := 35) C kc_X10_120 (mX10_finding (xl X) Λ _ _ am2) (wd37 Λ _) rfl (by decide) rfl rfl (Nat.le_of_ble_eq_true rfl) dX10_gives_32 rfl ?_
        refine v_goto (pc2 := 45) C dX10_gives_35 rfl ?_
        exact r_iS C E hres dX10_gives_45
    · have hres := (if_pos h11).symm.trans hres
      refine v_aload_n (pc2 := 15) C 0 dX10_gives_14 rfl rfl ?_
      refine v_ldc (pc2 := 17) C lc_X10_119 dX10_gives_15 rfl ?_
      refine v_cVi (pc2 := 20) C kc_X10_120 (mX10_finding (xl X) Λ _ _ am1) (wd37 Λ _) rfl (by decide) rfl rfl (Nat.le_of_ble_eq_true rfl) dX10_gives_17 rfl ?_
      exact r_iS C E hres dX10_gives_20
theorem mX10_gives (l : Launch) (Λ : LY) (σ : St) (a1 : Int32) (a2 : Int32) (hs : Safe σ) : CT l Λ yX10_gives cX10_gives 3 (some .int) 8 220 [.ref (adr Λ 37), .int (a1), .int (a2)] σ (some (.int (f10_gives σ a1 a2).1)) (f10_gives σ a1 a2).2 := by
  refine CT_of (by decide +kernel) (Nat.le_of_ble_eq_true rfl) ?_
  intro X hX C E
  obtain ⟨res, hres⟩ : ∃ r, (f10_gives σ a1 a2) = r := ⟨_, rfl⟩
  rw [hres] at E
  exact bf10_gives C E _ _ _  hs hres
def f10_wind (σ : St) (a1 : Int32) (a2 : Int32) : Int32 × St :=
  (if (f10_isHour a1) = (0 : Int32) then (((f10_finding σ (-1000000001 : Int32)).1), ((f10_finding σ (-1000000001 : Int32)).2)) else (if (f10_in a2 (-1 : Int32) (200 : Int32)) = (0 : Int32) then (((f10_finding σ (-1000000001 : Int32)).1), ((f10_finding σ (-1000000001 : Int32)).2)) else (if a2 = (-1 : Int32) then ((0 : Int32), (uA σ 29 (Int32.toNatClampNeg a1) a2)) else ((1 : Int32), (uA σ 29 (Int32.toNatClampNeg a1) a2)))))
set_option maxHeartbeats 4000000 in
set_option maxRecDepth 100000 in
theorem bf10_wind {X : CX} {Λ : LY} (C : OK X Λ cX10_wind 3 RX10 2 42) {res : Int32 × St} (E : EN X Λ (some .int) (some (.int res.1)) res.2) (σ : St) (a1 : Int32) (a2 : Int32)  (hres : (f10_wind σ a1 a2) = res) : VV X Λ 3 0 [(0, .ref (adr Λ 37)), (1, .int (a1)), (2, .int (a2))] [] σ := by
  unfold f10_wind at hres
  refine v_iload_n (pc2 := 1) C 1 dX10_wind_0 rfl rfl ?_
  refine v_cSi (pc2 := 4) C kc_X10_131 (mX10_isHour (xl X) Λ _ _) (by decide) rfl rfl (Nat.le_of_ble_eq_true rfl) dX10_wind_1 rfl ?_
  refine v_ifeq (pc2 := 18) (pc3 := 7) C dX10_wind_4 rfl rfl (fun h4 => ?_) (fun h4 => ?_)
  · have hres := (if_pos h4).symm.trans hres
    refine v_aload_n (pc2 := 19) C 0 dX10_wind_18 rfl rfl ?_
    refine v_ldc (pc2 := 21) C lc_X10_119 dX10_wind_19 rfl ?_
    refine v_cVi (pc2 := 24) C kc_X10_120 (mX10_finding (xl X) Λ _ _ am1) (wd37 Λ _) rfl (by decide) rfl rfl (Nat.le_of_ble_eq_true rfl) dX10_wind_21 rfl ?_
    exact r_iS C E hres dX10_wind_24
  · have hres := (if_neg h4).symm.trans hres
    refine v_iload_n (pc2 := 8) C 2 dX10_wind_7 rfl rfl ?_
    refine v_iconst (pc2 := 9) C dX10_wind_8 ki_m1 rfl ?_
    refine v_sipush (pc2 := 12) C dX10_wind_9 ks_200 rfl ?_
    refine v_cSi (pc2 := 15) C kc_X10_75 (mX10_in (xl X) Λ _ _ _ _) (by decide) rfl rfl (Nat.le_of_ble_eq_true rfl) dX10_wind_12 rfl ?_
    refine v_ifne (pc2 := 25) (pc3 := 18) C dX10_wind_15 rfl rfl (fun h15 => ?_) (fun h15 => ?_)
    · have hres := (if_neg h15).symm.trans hres
      refine v_aload_n (pc2 := 26) C 0 dX10_wind_25 rfl rfl ?_
      refine vg_X10_windOf (pc2 := 29) C lf_X10_37 dX10_wind_26 rfl ?_
      refine v_iload_n (pc2 := 30) C 1 dX10_wind_29 rfl rfl ?_
      refine v_iload_n (pc2 := 31) C 2 dX10_wind_30 rfl rfl ?_
      refine as47 (pc2 := 32) C (mHour_in h4) dX10_wind_31 rfl ?_
      refine v_iload_n (pc2 := 33) C 2 dX10_wind_32 rfl rfl ?_
      refine v_iconst (pc2 := 34) C dX10_wind_33 ki_m1 rfl ?_
      refine v_icmpne (pc2 := 41) (pc3 := 37) C dX10_wind_34 rfl rfl (fun h34 => ?_) (fun h34 => ?_)
      · have hres := (if_neg h34).symm.trans hres
        refine v_iconst (pc2 := 42) C dX10_wind_41 ki_1 rfl ?_
        exact r_iS C E hres dX10_wind_42
      · have hres := (if_pos h34).symm.trans hres
        refine v_iconst (pc2 := 38) C dX10_wind_37 ki_0 rfl ?_
        refine v_goto (pc2 := 42) C dX10_wind_38 rfl ?_
        exact r_iS C E hres dX10_wind_42
    · have hres := (if_pos h15).symm.trans hres
      refine v_aload_n (pc2 := 19) C 0 dX10_wind_18 rfl rfl ?_
      refine v_ldc (pc2 := 21) C lc_X10_119 dX10_wind_19 rfl ?_
      refine v_cVi (pc2 := 24) C kc_X10_120 (mX10_finding (xl X) Λ _ _ am1) (wd37 Λ _) rfl (by decide) rfl rfl (Nat.le_of_ble_eq_true rfl) dX10_wind_21 rfl ?_
      exact r_iS C E hres dX10_wind_24
theorem mX10_wind (l : Launch) (Λ : LY) (σ : St) (a1 : Int32) (a2 : Int32)  : CT l Λ yX10_wind cX10_wind 3 (some .int) 2 42 [.ref (adr Λ 37), .int (a1), .int (a2)] σ (some (.int (f10_wind σ a1 a2).1)) (f10_wind σ a1 a2).2 := by
  refine CT_of (by decide +kernel) (Nat.le_of_ble_eq_true rfl) ?_
  intro X hX C E
  obtain ⟨res, hres⟩ : ∃ r, (f10_wind σ a1 a2) = r := ⟨_, rfl⟩
  rw [hres] at E
  exact bf10_wind C E _ _ _   hres
def f10_limit (σ : St) (a1 : Int32) : Int32 × St :=
  (if (f10_in a1 (1 : Int32) (200 : Int32)) = (0 : Int32) then (((f10_finding σ (-1000000001 : Int32)).1), ((f10_finding σ (-1000000001 : Int32)).2)) else ((gI σ 21), (uI σ 21 a1)))
set_option maxHeartbeats 4000000 in
set_option maxRecDepth 100000 in
theorem bf10_limit {X : CX} {Λ : LY} (C : OK X Λ cX10_limit 3 RX10 1 22) {res : Int32 × St} (E : EN X Λ (some .int) (some (.int res.1)) res.2) (σ : St) (a1 : Int32)  (hres : (f10_limit σ a1) = res) : VV X Λ 3 0 [(0, .ref (adr Λ 37)), (1, .int (a1))] [] σ := by
  unfold f10_limit at hres
  refine v_iload_n (pc2 := 1) C 1 dX10_limit_0 rfl rfl ?_
  refine v_iconst (pc2 := 2) C dX10_limit_1 ki_1 rfl ?_
  refine v_sipush (pc2 := 5) C dX10_limit_2 ks_200 rfl ?_
  refine v_cSi (pc2 := 8) C kc_X10_75 (mX10_in (xl X) Λ _ _ _ _) (by decide) rfl rfl (Nat.le_of_ble_eq_true rfl) dX10_limit_5 rfl ?_
  refine v_ifne (pc2 := 18) (pc3 := 11) C dX10_limit_8 rfl rfl (fun h8 => ?_) (fun h8 => ?_)
  · have hres := (if_neg h8).symm.trans hres
    refine v_aload_n (pc2 := 19) C 0 dX10_limit_18 rfl rfl ?_
    refine vg_X10_limit (pc2 := 22) C lf_X10_47 dX10_limit_19 rfl ?_
    refine v_istore_n (pc2 := 23) (lv2 := [(2, _), (0, _), (1, _)]) C dX10_limit_22 (by decide) rfl rfl ?_
    refine v_aload_n (pc2 := 24) C 1 dX10_limit_23 rfl rfl ?_
    refine v_iload_n (pc2 := 25) C 2 dX10_limit_24 rfl rfl ?_
    refine vp_X10_limit (pc2 := 28) C lf_X10_47 dX10_limit_25 rfl ?_
    refine v_iload_n (pc2 := 29) C 0 dX10_limit_28 rfl rfl ?_
    exact r_iS C E hres dX10_limit_29
  · have hres := (if_pos h8).symm.trans hres
    refine v_aload_n (pc2 := 12) C 0 dX10_limit_11 rfl rfl ?_
    refine v_ldc (pc2 := 14) C lc_X10_119 dX10_limit_12 rfl ?_
    refine v_cVi (pc2 := 17) C kc_X10_120 (mX10_finding (xl X) Λ _ _ am1) (wd37 Λ _) rfl (by decide) rfl rfl (Nat.le_of_ble_eq_true rfl) dX10_limit_14 rfl ?_
    exact r_iS C E hres dX10_limit_17
theorem mX10_limit (l : Launch) (Λ : LY) (σ : St) (a1 : Int32)  : CT l Λ yX10_limit cX10_limit 3 (some .int) 1 22 [.ref (adr Λ 37), .int (a1)] σ (some (.int (f10_limit σ a1).1)) (f10_limit σ a1).2 := by
  refine CT_of (by decide +kernel) (Nat.le_of_ble_eq_true rfl) ?_
  intro X hX C E
  obtain ⟨res, hres⟩ : ∃ r, (f10_limit σ a1) = r := ⟨_, rfl⟩
  rw [hres] at E
  exact bf10_limit C E _ _   hres
def f10_cleaning (σ : St) (a1 : Int32) (a2 : Int32) : Int32 × St :=
  (if (f10_isHour a1) = (0 : Int32) then (((f10_finding σ (-1000000001 : Int32)).1), ((f10_finding σ (-1000000001 : Int32)).2)) else (if (gA σ 30 (Int32.toNatClampNeg a1)) = a2 then ((0 : Int32), (uA σ 30 (Int32.toNatClampNeg a1) (vp_nar .boolean a2))) else ((1 : Int32), (uA σ 30 (Int32.toNatClampNeg a1) (vp_nar .boolean a2)))))
set_option maxHeartbeats 4000000 in
set_option maxRecDepth 100000 in
theorem bf10_cleaning {X : CX} {Λ : LY} (C : OK X Λ cX10_cleaning 4 RX10 2 42) {res : Int32 × St} (E : EN X Λ (some .int) (some (.int res.1)) res.2) (σ : St) (a1 : Int32) (a2 : Int32)  (hres : (f10_cleaning σ a1 a2) = res) : VV X Λ 4 0 [(0, .ref (adr Λ 37)), (1, .int (a1)), (2, .int (a2))] [] σ := by
  unfold f10_cleaning at hres
  refine v_iload_n (pc2 := 1) C 1 dX10_cleaning_0 rfl rfl ?_
  refine v_cSi (pc2 := 4) C kc_X10_131 (mX10_isHour (xl X) Λ _ _) (by decide) rfl rfl (Nat.le_of_ble_eq_true rfl) dX10_cleaning_1 rfl ?_
  refine v_ifne (pc2 := 14) (pc3 := 7) C dX10_cleaning_4 rfl rfl (fun h4 => ?_) (fun h4 => ?_)
  · have hres := (if_neg h4).symm.trans hres
    refine v_aload_n (pc2 := 15) C 0 dX10_cleaning_14 rfl rfl ?_
    refine vg_X10_cleans (pc2 := 18) C lf_X10_40 dX10_cleaning_15 rfl ?_
    refine v_iload_n (pc2 := 19) C 1 dX10_cleaning_18 rfl rfl ?_
    refine al48 (pc2 := 20) C (mHour_in h4) dX10_cleaning_19 rfl ?_
    refine v_istore_n (pc2 := 21) (lv2 := [(3, _), (0, _), (1, _), (2, _)]) C dX10_cleaning_20 (by decide) rfl rfl ?_
    refine v_aload_n (pc2 := 22) C 1 dX10_cleaning_21 rfl rfl ?_
    refine vg_X10_cleans (pc2 := 25) C lf_X10_40 dX10_cleaning_22 rfl ?_
    refine v_iload_n (pc2 := 26) C 2 dX10_cleaning_25 rfl rfl ?_
    refine v_iload_n (pc2 := 27) C 3 dX10_cleaning_26 rfl rfl ?_
    refine as48 (pc2 := 28) C (mHour_in h4) dX10_cleaning_27 rfl ?_
    refine v_iload_n (pc2 := 29) C 0 dX10_cleaning_28 rfl rfl ?_
    refine v_iload_n (pc2 := 30) C 3 dX10_cleaning_29 rfl rfl ?_
    refine v_icmpne (pc2 := 37) (pc3 := 33) C dX10_cleaning_30 rfl rfl (fun h30 => ?_) (fun h30 => ?_)
    · have hres := (if_neg h30).symm.trans hres
      refine v_iconst (pc2 := 38) C dX10_cleaning_37 ki_1 rfl ?_
      exact r_iS C E hres dX10_cleaning_38
    · have hres := (if_pos h30).symm.trans hres
      refine v_iconst (pc2 := 34) C dX10_cleaning_33 ki_0 rfl ?_
      refine v_goto (pc2 := 38) C dX10_cleaning_34 rfl ?_
      exact r_iS C E hres dX10_cleaning_38
  · have hres := (if_pos h4).symm.trans hres
    refine v_aload_n (pc2 := 8) C 0 dX10_cleaning_7 rfl rfl ?_
    refine v_ldc (pc2 := 10) C lc_X10_119 dX10_cleaning_8 rfl ?_
    refine v_cVi (pc2 := 13) C kc_X10_120 (mX10_finding (xl X) Λ _ _ am1) (wd37 Λ _) rfl (by decide) rfl rfl (Nat.le_of_ble_eq_true rfl) dX10_cleaning_10 rfl ?_
    exact r_iS C E hres dX10_cleaning_13
theorem mX10_cleaning (l : Launch) (Λ : LY) (σ : St) (a1 : Int32) (a2 : Int32)  : CT l Λ yX10_cleaning cX10_cleaning 4 (some .int) 2 42 [.ref (adr Λ 37), .int (a1), .int (a2)] σ (some (.int (f10_cleaning σ a1 a2).1)) (f10_cleaning σ a1 a2).2 := by
  refine CT_of (by decide +kernel) (Nat.le_of_ble_eq_true rfl) ?_
  intro X hX C E
  obtain ⟨res, hres⟩ : ∃ r, (f10_cleaning σ a1 a2) = r := ⟨_, rfl⟩
  rw [hres] at E
  exact bf10_cleaning C E _ _ _   hres
def f10_book (σ : St) (a1 : Int32) : Int64 × St :=
  (if (gI σ 25) = (0 : Int32) then ((Int32.toInt64 ((f10_finding σ (-1000000002 : Int32)).1)), ((f10_finding σ (-1000000002 : Int32)).2)) else (if (f10_in a1 (0 : Int32) (7 : Int32)) = (0 : Int32) then ((Int32.toInt64 ((f10_finding σ (-1000000001 : Int32)).1)), ((f10_finding σ (-1000000001 : Int32)).2)) else ((gB σ 10 (Int32.toNatClampNeg a1)), σ)))
set_option maxHeartbeats 4000000 in
set_option maxRecDepth 100000 in
theorem bf10_book {X : CX} {Λ : LY} (C : OK X Λ cX10_book 2 RX10 1 22) {res : Int64 × St} (E : EN X Λ (some .long) (some (.long res.1)) res.2) (σ : St) (a1 : Int32)  (hres : (f10_book σ a1) = res) : VV X Λ 2 0 [(0, .ref (adr Λ 37)), (1, .int (a1))] [] σ := by
  unfold f10_book at hres
  refine v_aload_n (pc2 := 1) C 0 dX10_book_0 rfl rfl ?_
  refine vg_X10_went (pc2 := 4) C lf_X10_229 dX10_book_1 rfl ?_
  refine v_ifne (pc2 := 15) (pc3 := 7) C dX10_book_4 rfl rfl (fun h4 => ?_) (fun h4 => ?_)
  · have hres := (if_neg h4).symm.trans hres
    refine v_iload_n (pc2 := 16) C 1 dX10_book_15 rfl rfl ?_
    refine v_iconst (pc2 := 17) C dX10_book_16 ki_0 rfl ?_
    refine v_bipush (pc2 := 19) C dX10_book_17 kb_7 rfl ?_
    refine v_cSi (pc2 := 22) C kc_X10_75 (mX10_in (xl X) Λ _ _ _ _) (by decide) rfl rfl (Nat.le_of_ble_eq_true rfl) dX10_book_19 rfl ?_
    refine v_ifeq (pc2 := 34) (pc3 := 25) C dX10_book_22 rfl rfl (fun h22 => ?_) (fun h22 => ?_)
    · have hres := (if_pos h22).symm.trans hres
      refine v_aload_n (pc2 := 35) C 0 dX10_book_34 rfl rfl ?_
      refine v_ldc (pc2 := 37) C lc_X10_119 dX10_book_35 rfl ?_
      refine v_cVi (pc2 := 40) C kc_X10_120 (mX10_finding (xl X) Λ _ _ am1) (wd37 Λ _) rfl (by decide) rfl rfl (Nat.le_of_ble_eq_true rfl) dX10_book_37 rfl ?_
      refine v_i2l (pc2 := 41) C dX10_book_40 rfl ?_
      exact r_lS C E hres dX10_book_41
    · have hres := (if_neg h22).symm.trans hres
      refine v_aload_n (pc2 := 26) C 0 dX10_book_25 rfl rfl ?_
      refine vg_X10_book (pc2 := 29) C lf_X10_51 dX10_book_26 rfl ?_
      refine v_iload_n (pc2 := 30) C 1 dX10_book_29 rfl rfl ?_
      refine al50 (pc2 := 31) C (mi7_in h22) dX10_book_30 rfl ?_
      refine v_goto (pc2 := 41) C dX10_book_31 rfl ?_
      exact r_lS C E hres dX10_book_41
  · have hres := (if_pos h4).symm.trans hres
    refine v_aload_n (pc2 := 8) C 0 dX10_book_7 rfl rfl ?_
    refine v_ldc (pc2 := 10) C lc_X10_126 dX10_book_8 rfl ?_
    refine v_cVi (pc2 := 13) C kc_X10_120 (mX10_finding (xl X) Λ _ _ am2) (wd37 Λ _) rfl (by decide) rfl rfl (Nat.le_of_ble_eq_true rfl) dX10_book_10 rfl ?_
    refine v_i2l (pc2 := 14) C dX10_book_13 rfl ?_
    exact r_lS C E hres dX10_book_14
theorem mX10_book (l : Launch) (Λ : LY) (σ : St) (a1 : Int32)  : CT l Λ yX10_book cX10_book 2 (some .long) 1 22 [.ref (adr Λ 37), .int (a1)] σ (some (.long (f10_book σ a1).1)) (f10_book σ a1).2 := by
  refine CT_of (by decide +kernel) (Nat.le_of_ble_eq_true rfl) ?_
  intro X hX C E
  obtain ⟨res, hres⟩ : ∃ r, (f10_book σ a1) = r := ⟨_, rfl⟩
  rw [hres] at E
  exact bf10_book C E _ _   hres
def f10_all (σ : St) (a1 : Int32) : Int64 × St :=
  (if (f10_in a1 (0 : Int32) (5 : Int32)) = (0 : Int32) then ((Int32.toInt64 ((f10_finding σ (-1000000001 : Int32)).1)), ((f10_finding σ (-1000000001 : Int32)).2)) else ((gB σ 11 (Int32.toNatClampNeg a1)), σ))
set_option maxHeartbeats 4000000 in
set_option maxRecDepth 100000 in
theorem bf10_all {X : CX} {Λ : LY} (C : OK X Λ cX10_all 2 RX10 1 22) {res : Int64 × St} (E : EN X Λ (some .long) (some (.long res.1)) res.2) (σ : St) (a1 : Int32)  (hres : (f10_all σ a1) = res) : VV X Λ 2 0 [(0, .ref (adr Λ 37)), (1, .int (a1))] [] σ := by
  unfold f10_all at hres
  refine v_iload_n (pc2 := 1) C 1 dX10_all_0 rfl rfl ?_
  refine v_iconst (pc2 := 2) C dX10_all_1 ki_0 rfl ?_
  refine v_iconst (pc2 := 3) C dX10_all_2 ki_5 rfl ?_
  refine v_cSi (pc2 := 6) C kc_X10_75 (mX10_in (xl X) Λ _ _ _ _) (by decide) rfl rfl (Nat.le_of_ble_eq_true rfl) dX10_all_3 rfl ?_
  refine v_ifeq (pc2 := 18) (pc3 := 9) C dX10_all_6 rfl rfl (fun h6 => ?_) (fun h6 => ?_)
  · have hres := (if_pos h6).symm.trans hres
    refine v_aload_n (pc2 := 19) C 0 dX10_all_18 rfl rfl ?_
    refine v_ldc (pc2 := 21) C lc_X10_119 dX10_all_19 rfl ?_
    refine v_cVi (pc2 := 24) C kc_X10_120 (mX10_finding (xl X) Λ _ _ am1) (wd37 Λ _) rfl (by decide) rfl rfl (Nat.le_of_ble_eq_true rfl) dX10_all_21 rfl ?_
    refine v_i2l (pc2 := 25) C dX10_all_24 rfl ?_
    exact r_lS C E hres dX10_all_25
  · have hres := (if_neg h6).symm.trans hres
    refine v_aload_n (pc2 := 10) C 0 dX10_all_9 rfl rfl ?_
    refine vg_X10_all (pc2 := 13) C lf_X10_55 dX10_all_10 rfl ?_
    refine v_iload_n (pc2 := 14) C 1 dX10_all_13 rfl rfl ?_
    refine al51 (pc2 := 15) C (mi5_in h6) dX10_all_14 rfl ?_
    refine v_goto (pc2 := 25) C dX10_all_15 rfl ?_
    exact r_lS C E hres dX10_all_25
theorem mX10_all (l : Launch) (Λ : LY) (σ : St) (a1 : Int32)  : CT l Λ yX10_all cX10_all 2 (some .long) 1 22 [.ref (adr Λ 37), .int (a1)] σ (some (.long (f10_all σ a1).1)) (f10_all σ a1).2 := by
  refine CT_of (by decide +kernel) (Nat.le_of_ble_eq_true rfl) ?_
  intro X hX C E
  obtain ⟨res, hres⟩ : ∃ r, (f10_all σ a1) = r := ⟨_, rfl⟩
  rw [hres] at E
  exact bf10_all C E _ _   hres
def f10_next (σ : St) : Int32 :=
  (gI σ 22)
set_option maxHeartbeats 4000000 in
set_option maxRecDepth 100000 in
theorem bf10_next {X : CX} {Λ : LY} (C : OK X Λ cX10_next 1 RX10 0 0) {σ : St} {res : Int32} (E : EN X Λ (some .int) (some (.int res)) σ)  (hres : (f10_next σ) = res) : VV X Λ 1 0 [(0, .ref (adr Λ 37))] [] σ := by
  unfold f10_next at hres
  refine v_aload_n (pc2 := 1) C 0 dX10_next_0 rfl rfl ?_
  refine vg_X10_nextHour (pc2 := 4) C lf_X10_239 dX10_next_1 rfl ?_
  exact r_iP C E hres dX10_next_4
theorem mX10_next (l : Launch) (Λ : LY) (σ : St)  : CT l Λ yX10_next cX10_next 1 (some .int) 0 0 [.ref (adr Λ 37)] σ (some (.int (f10_next σ))) σ := by
  refine CT_of (by decide +kernel) (Nat.le_of_ble_eq_true rfl) ?_
  intro X hX C E
  obtain ⟨res, hres⟩ : ∃ r, (f10_next σ) = r := ⟨_, rfl⟩
  rw [hres] at E
  exact bf10_next C E    hres
def f10_plan (σ : St) (a1 : Int32) (a2 : Int32) : Int32 × St :=
  (if (f10_isPlan a1 a2) = (0 : Int32) then (((f10_finding σ (-1000000001 : Int32)).1), ((f10_finding σ (-1000000001 : Int32)).2)) else ((gI ((f10_bestWorth σ a1 a2).2) 30), ((f10_bestWorth σ a1 a2).2)))
set_option maxHeartbeats 4000000 in
set_option maxRecDepth 100000 in
theorem bf10_plan {X : CX} {Λ : LY} (C : OK X Λ cX10_plan 5 RX10 2 43) {res : Int32 × St} (E : EN X Λ (some .int) (some (.int res.1)) res.2) (σ : St) (a1 : Int32) (a2 : Int32) (hs : Safe σ) (hres : (f10_plan σ a1 a2) = res) : VV X Λ 5 0 [(0, .ref (adr Λ 37)), (1, .int (a1)), (2, .int (a2))] [] σ := by
  unfold f10_plan at hres
  refine v_iload_n (pc2 := 1) C 1 dX10_plan_0 rfl rfl ?_
  refine v_iload_n (pc2 := 2) C 2 dX10_plan_1 rfl rfl ?_
  refine v_cSi (pc2 := 5) C kc_X10_261 (mX10_isPlan (xl X) Λ _ _ _) (by decide) rfl rfl (Nat.le_of_ble_eq_true rfl) dX10_plan_2 rfl ?_
  refine v_ifne (pc2 := 15) (pc3 := 8) C dX10_plan_5 rfl rfl (fun h5 => ?_) (fun h5 => ?_)
  · have hres := (if_neg h5).symm.trans hres
    refine v_aload_n (pc2 := 16) C 0 dX10_plan_15 rfl rfl ?_
    refine v_iload_n (pc2 := 17) C 1 dX10_plan_16 rfl rfl ?_
    refine v_iload_n (pc2 := 18) C 2 dX10_plan_17 rfl rfl ?_
    refine v_cVl (pc2 := 21) C kc_X10_264 (mX10_bestWorth (xl X) Λ _ _ _ hs) (wd37 Λ _) rfl (by decide) rfl rfl (Nat.le_of_ble_eq_true rfl) dX10_plan_18 rfl ?_
    refine v_lstore_n (pc2 := 22) (lv2 := [(3, _), (0, _), (1, _), (2, _)]) C dX10_plan_21 (by decide) rfl rfl ?_
    refine v_aload_n (pc2 := 23) C 1 dX10_plan_22 rfl rfl ?_
    refine vg_X10_bestSet (pc2 := 26) C lf_X10_256 dX10_plan_23 rfl ?_
    exact r_iS C E hres dX10_plan_26
  · have hres := (if_pos h5).symm.trans hres
    refine v_aload_n (pc2 := 9) C 0 dX10_plan_8 rfl rfl ?_
    refine v_ldc (pc2 := 11) C lc_X10_119 dX10_plan_9 rfl ?_
    refine v_cVi (pc2 := 14) C kc_X10_120 (mX10_finding (xl X) Λ _ _ am1) (wd37 Λ _) rfl (by decide) rfl rfl (Nat.le_of_ble_eq_true rfl) dX10_plan_11 rfl ?_
    exact r_iS C E hres dX10_plan_14
theorem mX10_plan (l : Launch) (Λ : LY) (σ : St) (a1 : Int32) (a2 : Int32) (hs : Safe σ) : CT l Λ yX10_plan cX10_plan 5 (some .int) 2 43 [.ref (adr Λ 37), .int (a1), .int (a2)] σ (some (.int (f10_plan σ a1 a2).1)) (f10_plan σ a1 a2).2 := by
  refine CT_of (by decide +kernel) (Nat.le_of_ble_eq_true rfl) ?_
  intro X hX C E
  obtain ⟨res, hres⟩ : ∃ r, (f10_plan σ a1 a2) = r := ⟨_, rfl⟩
  rw [hres] at E
  exact bf10_plan C E _ _ _  hs hres
def f10_worth (σ : St) (a1 : Int32) (a2 : Int32) : Int64 × St :=
  (if (f10_isPlan a1 a2) = (0 : Int32) then ((Int32.toInt64 ((f10_finding σ (-1000000001 : Int32)).1)), ((f10_finding σ (-1000000001 : Int32)).2)) else (((f10_bestWorth σ a1 a2).1), ((f10_bestWorth σ a1 a2).2)))
set_option maxHeartbeats 4000000 in
set_option maxRecDepth 100000 in
theorem bf10_worth {X : CX} {Λ : LY} (C : OK X Λ cX10_worth 3 RX10 2 43) {res : Int64 × St} (E : EN X Λ (some .long) (some (.long res.1)) res.2) (σ : St) (a1 : Int32) (a2 : Int32) (hs : Safe σ) (hres : (f10_worth σ a1 a2) = res) : VV X Λ 3 0 [(0, .ref (adr Λ 37)), (1, .int (a1)), (2, .int (a2))] [] σ := by
  unfold f10_worth at hres
  refine v_iload_n (pc2 := 1) C 1 dX10_worth_0 rfl rfl ?_
  refine v_iload_n (pc2 := 2) C 2 dX10_worth_1 rfl rfl ?_
  refine v_cSi (pc2 := 5) C kc_X10_261 (mX10_isPlan (xl X) Λ _ _ _) (by decide) rfl rfl (Nat.le_of_ble_eq_true rfl) dX10_worth_2 rfl ?_
  refine v_ifeq (pc2 := 17) (pc3 := 8) C dX10_worth_5 rfl rfl (fun h5 => ?_) (fun h5 => ?_)
  · have hres := (if_pos h5).symm.trans hres
    refine v_aload_n (pc2 := 18) C 0 dX10_worth_17 rfl rfl ?_
    refine v_ldc (pc2 := 20) C lc_X10_119 dX10_worth_18 rfl ?_
    refine v_cVi (pc2 := 23) C kc_X10_120 (mX10_finding (xl X) Λ _ _ am1) (wd37 Λ _) rfl (by decide) rfl rfl (Nat.le_of_ble_eq_true rfl) dX10_worth_20 rfl ?_
    refine v_i2l (pc2 := 24) C dX10_worth_23 rfl ?_
    exact r_lS C E hres dX10_worth_24
  · have hres := (if_neg h5).symm.trans hres
    refine v_aload_n (pc2 := 9) C 0 dX10_worth_8 rfl rfl ?_
    refine v_iload_n (pc2 := 10) C 1 dX10_worth_9 rfl rfl ?_
    refine v_iload_n (pc2 := 11) C 2 dX10_worth_10 rfl rfl ?_
    refine v_cVl (pc2 := 14) C kc_X10_264 (mX10_bestWorth (xl X) Λ _ _ _ hs) (wd37 Λ _) rfl (by decide) rfl rfl (Nat.le_of_ble_eq_true rfl) dX10_worth_11 rfl ?_
    refine v_goto (pc2 := 24) C dX10_worth_14 rfl ?_
    exact r_lS C E hres dX10_worth_24
theorem mX10_worth (l : Launch) (Λ : LY) (σ : St) (a1 : Int32) (a2 : Int32) (hs : Safe σ) : CT l Λ yX10_worth cX10_worth 3 (some .long) 2 43 [.ref (adr Λ 37), .int (a1), .int (a2)] σ (some (.long (f10_worth σ a1 a2).1)) (f10_worth σ a1 a2).2 := by
  refine CT_of (by decide +kernel) (Nat.le_of_ble_eq_true rfl) ?_
  intro X hX C E
  obtain ⟨res, hres⟩ : ∃ r, (f10_worth σ a1 a2) = r := ⟨_, rfl⟩
  rw [hres] at E
  exact bf10_worth C E _ _ _  hs hres
def f10_wash_L (a1 : Int32) : Nat → St → Int32 → Int32 → Int32 × St
  | 0, σ, _, _ => (0, σ)
  | n + 1, σ, w, r => (if (gI σ 20) ≤ r then (w, σ) else (if ((a1 >>> (r &&& 31)) &&& (1 : Int32)) = (1 : Int32) then (if (gA σ 24 (Int32.toNatClampNeg r)) ≤ (0 : Int32) then (f10_wash_L a1 n (uA σ 24 (Int32.toNatClampNeg r) (0 : Int32)) (w + (0 : Int32)) (r + (1 : Int32))) else (f10_wash_L a1 n (uA σ 24 (Int32.toNatClampNeg r) (0 : Int32)) (w + (1 : Int32)) (r + (1 : Int32)))) else (f10_wash_L a1 n σ w (r + (1 : Int32)))))
set_option maxHeartbeats 4000000 in
set_option maxRecDepth 100000 in
theorem bf10_wash_L {X : CX} {Λ : LY} (C : OK X Λ cX10_wash 4 RX10 1 22) {res : Int32 × St} (E : EN X Λ (some .int) (some (.int res.1)) res.2) (a1 : Int32)  : ∀ (n : Nat) (σ : St) (w : Int32) (r : Int32), (hs : Safe σ) → (hu : UP 10 r n) → (f10_wash_L a1 n σ w r) = res → VV X Λ 4 27 [(0, .ref (adr Λ 37)), (1, .int (a1)), (2, .int (w)), (3, .int (r))] [] σ := by
  intro n
  induction n with
  | zero => intro σ w r hs hu hres; exact absurd hu (fun h => h.z)
  | succ n ih =>
    intro σ w r hs hu hres
    rw [f10_wash_L] at hres
    refine v_iload_n (pc2 := 28) C 3 dX10_wash_27 rfl rfl ?_
    refine v_aload_n (pc2 := 29) C 0 dX10_wash_28 rfl rfl ?_
    refine vg_X10_rows (pc2 := 32) C lf_X10_72 dX10_wash_29 rfl ?_
    refine v_icmpge (pc2 := 74) (pc3 := 35) C dX10_wash_32 rfl rfl (fun h32 => ?_) (fun h32 => ?_)
    · have hres := (if_pos h32).symm.trans hres
      refine v_iload_n (pc2 := 75) C 2 dX10_wash_74 rfl rfl ?_
      exact r_iS C E hres dX10_wash_75
    · have hres := (if_neg h32).symm.trans hres
      refine v_iload_n (pc2 := 36) C 1 dX10_wash_35 rfl rfl ?_
      refine v_iload_n (pc2 := 37) C 3 dX10_wash_36 rfl rfl ?_
      refine v_ishr (pc2 := 38) C dX10_wash_37 rfl ?_
      refine v_iconst (pc2 := 39) C dX10_wash_38 ki_1 rfl ?_
      refine v_iand (pc2 := 40) C dX10_wash_39 rfl ?_
      refine v_iconst (pc2 := 41) C dX10_wash_40 ki_1 rfl ?_
      refine v_icmpne (pc2 := 68) (pc3 := 44) C dX10_wash_41 rfl rfl (fun h41 => ?_) (fun h41 => ?_)
      · have hres := (if_neg h41).symm.trans hres
        refine v_iinc (pc2 := 71) (lv2 := [(3, _), (0, _), (1, _), (2, _)]) C 3 dX10_wash_68 rfl ki_1 (by decide) rfl rfl ?_
        refine v_goto (pc2 := 27) C dX10_wash_71 rfl ?_
        exact v_lv [1, 2, 3, 0] rfl (ih _ _ _ hs (hu.step h32 hs.mrw.2 (by decide)) hres)
      · have hres := (if_pos h41).symm.trans hres
        refine v_iload_n (pc2 := 45) C 2 dX10_wash_44 rfl rfl ?_
        refine v_aload_n (pc2 := 46) C 0 dX10_wash_45 rfl rfl ?_
        refine vg_X10_dustOf (pc2 := 49) C lf_X10_22 dX10_wash_46 rfl ?_
        refine v_iload_n (pc2 := 50) C 3 dX10_wash_49 rfl rfl ?_
        refine al42 (pc2 := 51) C (hu.in h32 hs.mrw.2) dX10_wash_50 rfl ?_
        refine v_ifle (pc2 := 58) (pc3 := 54) C dX10_wash_51 rfl rfl (fun h51 => ?_) (fun h51 => ?_)
        · have hres := (if_pos h51).symm.trans hres
          refine v_iconst (pc2 := 59) C dX10_wash_58 ki_0 rfl ?_
          refine v_iadd (pc2 := 60) C dX10_wash_59 rfl ?_
          refine v_istore_n (pc2 := 61) (lv2 := [(2, _), (0, _), (1, _), (3, _)]) C dX10_wash_60 (by decide) rfl rfl ?_
          refine v_aload_n (pc2 := 62) C 1 dX10_wash_61 rfl rfl ?_
          refine vg_X10_dustOf (pc2 := 65) C lf_X10_22 dX10_wash_62 rfl ?_
          refine v_iload_n (pc2 := 66) C 3 dX10_wash_65 rfl rfl ?_
          refine v_iconst (pc2 := 67) C dX10_wash_66 ki_0 rfl ?_
          refine as42 (pc2 := 68) C (hu.in h32 hs.mrw.2) dX10_wash_67 rfl ?_
          refine v_iinc (pc2 := 71) (lv2 := [(3, _), (2, _), (0, _), (1, _)]) C 3 dX10_wash_68 rfl ki_1 (by decide) rfl rfl ?_
          refine v_goto (pc2 := 27) C dX10_wash_71 rfl ?_
          exact v_lv [2, 3, 1, 0] rfl (ih _ _ _ (sf_A (by decide) hs) (hu.step h32 hs.mrw.2 (by decide)) hres)
        · have hres := (if_neg h51).symm.trans hres
          refine v_iconst (pc2 := 55) C dX10_wash_54 ki_1 rfl ?_
          refine v_goto (pc2 := 59) C dX10_wash_55 rfl ?_
          refine v_iadd (pc2 := 60) C dX10_wash_59 rfl ?_
          refine v_istore_n (pc2 := 61) (lv2 := [(2, _), (0, _), (1, _), (3, _)]) C dX10_wash_60 (by decide) rfl rfl ?_
          refine v_aload_n (pc2 := 62) C 1 dX10_wash_61 rfl rfl ?_
          refine vg_X10_dustOf (pc2 := 65) C lf_X10_22 dX10_wash_62 rfl ?_
          refine v_iload_n (pc2 := 66) C 3 dX10_wash_65 rfl rfl ?_
          refine v_iconst (pc2 := 67) C dX10_wash_66 ki_0 rfl ?_
          refine as42 (pc2 := 68) C (hu.in h32 hs.mrw.2) dX10_wash_67 rfl ?_
          refine v_iinc (pc2 := 71) (lv2 := [(3, _), (2, _), (0, _), (1, _)]) C 3 dX10_wash_68 rfl ki_1 (by decide) rfl rfl ?_
          refine v_goto (pc2 := 27) C dX10_wash_71 rfl ?_
          exact v_lv [2, 3, 1, 0] rfl (ih _ _ _ (sf_A (by decide) hs) (hu.step h32 hs.mrw.2 (by decide)) hres)
def f10_wash (σ : St) (a1 : Int32) : Int32 × St :=
  (if (f10_in a1 (0 : Int32) (((1 : Int32) <<< ((gI σ 20) &&& 31)) - (1 : Int32))) = (0 : Int32) then (((f10_finding σ (-1000000001 : Int32)).1), ((f10_finding σ (-1000000001 : Int32)).2)) else (f10_wash_L a1 11 σ (0 : Int32) (0 : Int32)))
set_option maxHeartbeats 4000000 in
set_option maxRecDepth 100000 in
theorem bf10_wash {X : CX} {Λ : LY} (C : OK X Λ cX10_wash 4 RX10 1 22) {res : Int32 × St} (E : EN X Λ (some .int) (some (.int res.1)) res.2) (σ : St) (a1 : Int32) (hs : Safe σ) (hres : (f10_wash σ a1) = res) : VV X Λ 4 0 [(0, .ref (adr Λ 37)), (1, .int (a1))] [] σ := by
  unfold f10_wash at hres
  refine v_iload_n (pc2 := 1) C 1 dX10_wash_0 rfl rfl ?_
  refine v_iconst (pc2 := 2) C dX10_wash_1 ki_0 rfl ?_
  refine v_iconst (pc2 := 3) C dX10_wash_2 ki_1 rfl ?_
  refine v_aload_n (pc2 := 4) C 0 dX10_wash_3 rfl rfl ?_
  refine vg_X10_rows (pc2 := 7) C lf_X10_72 dX10_wash_4 rfl ?_
  refine v_ishl (pc2 := 8) C dX10_wash_7 rfl ?_
  refine v_iconst (pc2 := 9) C dX10_wash_8 ki_1 rfl ?_
  refine v_isub (pc2 := 10) C dX10_wash_9 rfl ?_
  refine v_cSi (pc2 := 13) C kc_X10_75 (mX10_in (xl X) Λ _ _ _ _) (by decide) rfl rfl (Nat.le_of_ble_eq_true rfl) dX10_wash_10 rfl ?_
  refine v_ifne (pc2 := 23) (pc3 := 16) C dX10_wash_13 rfl rfl (fun h13 => ?_) (fun h13 => ?_)
  · have hres := (if_neg h13).symm.trans hres
    refine v_iconst (pc2 := 24) C dX10_wash_23 ki_0 rfl ?_
    refine v_istore_n (pc2 := 25) (lv2 := [(2, _), (0, _), (1, _)]) C dX10_wash_24 (by decide) rfl rfl ?_
    refine v_iconst (pc2 := 26) C dX10_wash_25 ki_0 rfl ?_
    refine v_istore_n (pc2 := 27) (lv2 := [(3, _), (2, _), (0, _), (1, _)]) C dX10_wash_26 (by decide) rfl rfl ?_
    exact v_lv [2, 3, 1, 0] rfl (bf10_wash_L C E _ 11 _ _ _ hs UP.start  hres)
  · have hres := (if_pos h13).symm.trans hres
    refine v_aload_n (pc2 := 17) C 0 dX10_wash_16 rfl rfl ?_
    refine v_ldc (pc2 := 19) C lc_X10_119 dX10_wash_17 rfl ?_
    refine v_cVi (pc2 := 22) C kc_X10_120 (mX10_finding (xl X) Λ _ _ am1) (wd37 Λ _) rfl (by decide) rfl rfl (Nat.le_of_ble_eq_true rfl) dX10_wash_19 rfl ?_
    exact r_iS C E hres dX10_wash_22
theorem mX10_wash (l : Launch) (Λ : LY) (σ : St) (a1 : Int32) (hs : Safe σ) : CT l Λ yX10_wash cX10_wash 4 (some .int) 1 22 [.ref (adr Λ 37), .int (a1)] σ (some (.int (f10_wash σ a1).1)) (f10_wash σ a1).2 := by
  refine CT_of (by decide +kernel) (Nat.le_of_ble_eq_true rfl) ?_
  intro X hX C E
  obtain ⟨res, hres⟩ : ∃ r, (f10_wash σ a1) = r := ⟨_, rfl⟩
  rw [hres] at E
  exact bf10_wash C E _ _  hs hres
def f10_storm_L (a1 : Int32) : Nat → St → Int32 → Int32 → Int32 × St
  | 0, σ, _, _ => (0, σ)
  | n + 1, σ, w, r => (if (gI σ 20) ≤ r then (w, σ) else (if ((gA σ 24 (Int32.toNatClampNeg r)) + a1) ≤ (1000 : Int32) then (f10_storm_L a1 n (uA σ 24 (Int32.toNatClampNeg r) ((gA σ 24 (Int32.toNatClampNeg r)) + a1)) (w + (gA (uA σ 24 (Int32.toNatClampNeg r) ((gA σ 24 (Int32.toNatClampNeg r)) + a1)) 24 (Int32.toNatClampNeg r))) (r + (1 : Int32))) else (f10_storm_L a1 n (uA σ 24 (Int32.toNatClampNeg r) (1000 : Int32)) (w + (gA (uA σ 24 (Int32.toNatClampNeg r) (1000 : Int32)) 24 (Int32.toNatClampNeg r))) (r + (1 : Int32)))))
set_option maxHeartbeats 4000000 in
set_option maxRecDepth 100000 in
theorem bf10_storm_L {X : CX} {Λ : LY} (C : OK X Λ cX10_storm 4 RX10 1 22) {res : Int32 × St} (E : EN X Λ (some .int) (some (.int res.1)) res.2) (a1 : Int32)  : ∀ (n : Nat) (σ : St) (w : Int32) (r : Int32), (hs : Safe σ) → (hu : UP 10 r n) → (f10_storm_L a1 n σ w r) = res → VV X Λ 4 22 [(0, .ref (adr Λ 37)), (1, .int (a1)), (2, .int (w)), (3, .int (r))] [] σ := by
  intro n
  induction n with
  | zero => intro σ w r hs hu hres; exact absurd hu (fun h => h.z)
  | succ n ih =>
    intro σ w r hs hu hres
    rw [f10_storm_L] at hres
    refine v_iload_n (pc2 := 23) C 3 dX10_storm_22 rfl rfl ?_
    refine v_aload_n (pc2 := 24) C 0 dX10_storm_23 rfl rfl ?_
    refine vg_X10_rows (pc2 := 27) C lf_X10_72 dX10_storm_24 rfl ?_
    refine v_icmpge (pc2 := 79) (pc3 := 30) C dX10_storm_27 rfl rfl (fun h27 => ?_) (fun h27 => ?_)
    · have hres := (if_pos h27).symm.trans hres
      refine v_iload_n (pc2 := 80) C 2 dX10_storm_79 rfl rfl ?_
      exact r_iS C E hres dX10_storm_80
    · have hres := (if_neg h27).symm.trans hres
      refine v_aload_n (pc2 := 31) C 0 dX10_storm_30 rfl rfl ?_
      refine vg_X10_dustOf (pc2 := 34) C lf_X10_22 dX10_storm_31 rfl ?_
      refine v_iload_n (pc2 := 35) C 3 dX10_storm_34 rfl rfl ?_
      refine v_aload_n (pc2 := 36) C 0 dX10_storm_35 rfl rfl ?_
      refine vg_X10_dustOf (pc2 := 39) C lf_X10_22 dX10_storm_36 rfl ?_
      refine v_iload_n (pc2 := 40) C 3 dX10_storm_39 rfl rfl ?_
      refine al42 (pc2 := 41) C (hu.in h27 hs.mrw.2) dX10_storm_40 rfl ?_
      refine v_iload_n (pc2 := 42) C 1 dX10_storm_41 rfl rfl ?_
      refine v_iadd (pc2 := 43) C dX10_storm_42 rfl ?_
      refine v_sipush (pc2 := 46) C dX10_storm_43 ks_1000 rfl ?_
      refine v_icmple (pc2 := 55) (pc3 := 49) C dX10_storm_46 rfl rfl (fun h46 => ?_) (fun h46 => ?_)
      · have hres := (if_pos h46).symm.trans hres
        refine v_aload_n (pc2 := 56) C 0 dX10_storm_55 rfl rfl ?_
        refine vg_X10_dustOf (pc2 := 59) C lf_X10_22 dX10_storm_56 rfl ?_
        refine v_iload_n (pc2 := 60) C 3 dX10_storm_59 rfl rfl ?_
        refine al42 (pc2 := 61) C (hu.in h27 hs.mrw.2) dX10_storm_60 rfl ?_
        refine v_iload_n (pc2 := 62) C 1 dX10_storm_61 rfl rfl ?_
        refine v_iadd (pc2 := 63) C dX10_storm_62 rfl ?_
        refine as42 (pc2 := 64) C (hu.in h27 hs.mrw.2) dX10_storm_63 rfl ?_
        refine v_iload_n (pc2 := 65) C 2 dX10_storm_64 rfl rfl ?_
        refine v_aload_n (pc2 := 66) C 0 dX10_storm_65 rfl rfl ?_
        refine vg_X10_dustOf (pc2 := 69) C lf_X10_22 dX10_storm_66 rfl ?_
        refine v_iload_n (pc2 := 70) C 3 dX10_storm_69 rfl rfl ?_
        refine al42 (pc2 := 71) C (hu.in h27 hs.mrw.2) dX10_storm_70 rfl ?_
        refine v_iadd (pc2 := 72) C dX10_storm_71 rfl ?_
        refine v_istore_n (pc2 := 73) (lv2 := [(2, _), (0, _), (1, _), (3, _)]) C dX10_storm_72 (by decide) rfl rfl ?_
        refine v_iinc (pc2 := 76) (lv2 := [(3, _), (2, _), (0, _), (1, _)]) C 3 dX10_storm_73 rfl ki_1 (by decide) rfl rfl ?_
        refine v_goto (pc2 := 22) C dX10_storm_76 rfl ?_
        exact v_lv [2, 3, 1, 0] rfl (ih _ _ _ (sf_A (by decide) hs) (hu.step h27 hs.mrw.2 (by decide)) hres)
      · have hres := (if_neg h46).symm.trans hres
        refine v_sipush (pc2 := 52) C dX10_storm_49 ks_1000 rfl ?_
        refine v_goto (pc2 := 63) C dX10_storm_52 rfl ?_
        refine as42 (pc2 := 64) C (hu.in h27 hs.mrw.2) dX10_storm_63 rfl ?_
        refine v_iload_n (pc2 := 65) C 2 dX10_storm_64 rfl rfl ?_
        refine v_aload_n (pc2 := 66) C 0 dX10_storm_65 rfl rfl ?_
        refine vg_X10_dustOf (pc2 := 69) C lf_X10_22 dX10_storm_66 rfl ?_
        refine v_iload_n (pc2 := 70) C 3 dX10_storm_69 rfl rfl ?_
        refine al42 (pc2 := 71) C (hu.in h27 hs.mrw.2) dX10_storm_70 rfl ?_
        refine v_iadd (pc2 := 72) C dX10_storm_71 rfl ?_
        refine v_istore_n (pc2 := 73) (lv2 := [(2, _), (0, _), (1, _), (3, _)]) C dX10_storm_72 (by decide) rfl rfl ?_
        refine v_iinc (pc2 := 76) (lv2 := [(3, _), (2, _), (0, _), (1, _)]) C 3 dX10_storm_73 rfl ki_1 (by decide) rfl rfl ?_
        refine v_goto (pc2 := 22) C dX10_storm_76 rfl ?_
        exact v_lv [2, 3, 1, 0] rfl (ih _ _ _ (sf_A (by decide) hs) (hu.step h27 hs.mrw.2 (by decide)) hres)
def f10_storm (σ : St) (a1 : Int32) : Int32 × St :=
  (if (f10_in a1 (0 : Int32) (1000 : Int32)) = (0 : Int32) then (((f10_finding σ (-1000000001 : Int32)).1), ((f10_finding σ (-1000000001 : Int32)).2)) else (f10_storm_L a1 11 σ (0 : Int32) (0 : Int32)))
set_option maxHeartbeats 4000000 in
set_option maxRecDepth 100000 in
theorem bf10_storm {X : CX} {Λ : LY} (C : OK X Λ cX10_storm 4 RX10 1 22) {res : Int32 × St} (E : EN X Λ (some .int) (some (.int res.1)) res.2) (σ : St) (a1 : Int32) (hs : Safe σ) (hres : (f10_storm σ a1) = res) : VV X Λ 4 0 [(0, .ref (adr Λ 37)), (1, .int (a1))] [] σ := by
  unfold f10_storm at hres
  refine v_iload_n (pc2 := 1) C 1 dX10_storm_0 rfl rfl ?_
  refine v_iconst (pc2 := 2) C dX10_storm_1 ki_0 rfl ?_
  refine v_sipush (pc2 := 5) C dX10_storm_2 ks_1000 rfl ?_
  refine v_cSi (pc2 := 8) C kc_X10_75 (mX10_in (xl X) Λ _ _ _ _) (by decide) rfl rfl (Nat.le_of_ble_eq_true rfl) dX10_storm_5 rfl ?_
  refine v_ifne (pc2 := 18) (pc3 := 11) C dX10_storm_8 rfl rfl (fun h8 => ?_) (fun h8 => ?_)
  · have hres := (if_neg h8).symm.trans hres
    refine v_iconst (pc2 := 19) C dX10_storm_18 ki_0 rfl ?_
    refine v_istore_n (pc2 := 20) (lv2 := [(2, _), (0, _), (1, _)]) C dX10_storm_19 (by decide) rfl rfl ?_
    refine v_iconst (pc2 := 21) C dX10_storm_20 ki_0 rfl ?_
    refine v_istore_n (pc2 := 22) (lv2 := [(3, _), (2, _), (0, _), (1, _)]) C dX10_storm_21 (by decide) rfl rfl ?_
    exact v_lv [2, 3, 1, 0] rfl (bf10_storm_L C E _ 11 _ _ _ hs UP.start  hres)
  · have hres := (if_pos h8).symm.trans hres
    refine v_aload_n (pc2 := 12) C 0 dX10_storm_11 rfl rfl ?_
    refine v_ldc (pc2 := 14) C lc_X10_119 dX10_storm_12 rfl ?_
    refine v_cVi (pc2 := 17) C kc_X10_120 (mX10_finding (xl X) Λ _ _ am1) (wd37 Λ _) rfl (by decide) rfl rfl (Nat.le_of_ble_eq_true rfl) dX10_storm_14 rfl ?_
    exact r_iS C E hres dX10_storm_17
theorem mX10_storm (l : Launch) (Λ : LY) (σ : St) (a1 : Int32) (hs : Safe σ) : CT l Λ yX10_storm cX10_storm 4 (some .int) 1 22 [.ref (adr Λ 37), .int (a1)] σ (some (.int (f10_storm σ a1).1)) (f10_storm σ a1).2 := by
  refine CT_of (by decide +kernel) (Nat.le_of_ble_eq_true rfl) ?_
  intro X hX C E
  obtain ⟨res, hres⟩ : ∃ r, (f10_storm σ a1) = r := ⟨_, rfl⟩
  rw [hres] at E
  exact bf10_storm C E _ _  hs hres
def f10_tell (σ : St) (a1 : Int32) : Int32 × St :=
  (if (gI σ 28) = (72 : Int32) then (((f10_finding σ (-1000000004 : Int32)).1), ((f10_finding σ (-1000000004 : Int32)).2)) else ((gI (uI (uA σ 32 (Int32.toNatClampNeg (gI σ 28)) a1) 28 ((gI (uA σ 32 (Int32.toNatClampNeg (gI σ 28)) a1) 28) + (1 : Int32))) 28), (uI (uA σ 32 (Int32.toNatClampNeg (gI σ 28)) a1) 28 ((gI (uA σ 32 (Int32.toNatClampNeg (gI σ 28)) a1) 28) + (1 : Int32)))))
set_option maxHeartbeats 4000000 in
set_option maxRecDepth 100000 in
theorem bf10_tell {X : CX} {Λ : LY} (C : OK X Λ cX10_tell 2 RX10 1 21) {res : Int32 × St} (E : EN X Λ (some .int) (some (.int res.1)) res.2) (σ : St) (a1 : Int32) (hs : Safe σ) (hres : (f10_tell σ a1) = res) : VV X Λ 2 0 [(0, .ref (adr Λ 37)), (1, .int (a1))] [] σ := by
  unfold f10_tell at hres
  refine v_aload_n (pc2 := 1) C 0 dX10_tell_0 rfl rfl ?_
  refine vg_X10_taped (pc2 := 4) C lf_X10_141 dX10_tell_1 rfl ?_
  refine v_bipush (pc2 := 6) C dX10_tell_4 kb_72 rfl ?_
  refine v_icmpne (pc2 := 16) (pc3 := 9) C dX10_tell_6 rfl rfl (fun h6 => ?_) (fun h6 => ?_)
  · have hres := (if_neg h6).symm.trans hres
    refine v_aload_n (pc2 := 17) C 0 dX10_tell_16 rfl rfl ?_
    refine vg_X10_tape (pc2 := 20) C lf_X10_58 dX10_tell_17 rfl ?_
    refine v_aload_n (pc2 := 21) C 0 dX10_tell_20 rfl rfl ?_
    refine vg_X10_taped (pc2 := 24) C lf_X10_141 dX10_tell_21 rfl ?_
    refine v_iload_n (pc2 := 25) C 1 dX10_tell_24 rfl rfl ?_
    refine as52 (pc2 := 26) C (vin hs.mtp.1 (by have := hs.mtp.2; have := t_neq h6 rfl lit_72; omega)) dX10_tell_25 rfl ?_
    refine v_aload_n (pc2 := 27) C 0 dX10_tell_26 rfl rfl ?_
    refine v_dup (pc2 := 28) C dX10_tell_27 rfl rfl ?_
    refine vg_X10_taped (pc2 := 31) C lf_X10_141 dX10_tell_28 rfl ?_
    refine v_iconst (pc2 := 32) C dX10_tell_31 ki_1 rfl ?_
    refine v_iadd (pc2 := 33) C dX10_tell_32 rfl ?_
    refine vp_X10_taped (pc2 := 36) C lf_X10_141 dX10_tell_33 rfl ?_
    refine v_aload_n (pc2 := 37) C 0 dX10_tell_36 rfl rfl ?_
    refine vg_X10_taped (pc2 := 40) C lf_X10_141 dX10_tell_37 rfl ?_
    exact r_iS C E hres dX10_tell_40
  · have hres := (if_pos h6).symm.trans hres
    refine v_aload_n (pc2 := 10) C 0 dX10_tell_9 rfl rfl ?_
    refine v_ldc (pc2 := 12) C lc_X10_125 dX10_tell_10 rfl ?_
    refine v_cVi (pc2 := 15) C kc_X10_120 (mX10_finding (xl X) Λ _ _ am4) (wd37 Λ _) rfl (by decide) rfl rfl (Nat.le_of_ble_eq_true rfl) dX10_tell_12 rfl ?_
    exact r_iS C E hres dX10_tell_15
theorem mX10_tell (l : Launch) (Λ : LY) (σ : St) (a1 : Int32) (hs : Safe σ) : CT l Λ yX10_tell cX10_tell 2 (some .int) 1 21 [.ref (adr Λ 37), .int (a1)] σ (some (.int (f10_tell σ a1).1)) (f10_tell σ a1).2 := by
  refine CT_of (by decide +kernel) (Nat.le_of_ble_eq_true rfl) ?_
  intro X hX C E
  obtain ⟨res, hres⟩ : ∃ r, (f10_tell σ a1) = r := ⟨_, rfl⟩
  rw [hres] at E
  exact bf10_tell C E _ _  hs hres
def f10_check_L (to : Int32) : Nat → St → Int32 → Int32 × St
  | 0, σ, _ => (0, σ)
  | n + 1, σ, j => (if (6 : Int32) ≤ j then (if to ≤ (6 : Int32) then ((0 : Int32), σ) else ((99 : Int32), σ)) else (if to ≤ j then (((1 : Int32) + j), σ) else (if (Int32.toInt64 (gA σ 32 (Int32.toNatClampNeg j))) = (gB σ 10 (Int32.toNatClampNeg j)) then (f10_check_L to n σ (j + (1 : Int32))) else (((1 : Int32) + j), σ))))
set_option maxHeartbeats 4000000 in
set_option maxRecDepth 100000 in
theorem bf10_check_L {X : CX} {Λ : LY} (C : OK X Λ cX10_check 3 RX10 1 21) {res : Int32 × St} (E : EN X Λ (some .int) (some (.int res.1)) res.2) (to : Int32)  : ∀ (n : Nat) (σ : St) (j : Int32), (hu : UP 6 j n) → (f10_check_L to n σ j) = res → VV X Λ 3 26 [(0, .ref (adr Λ 37)), (1, .int (to)), (2, .int (j))] [] σ := by
  intro n
  induction n with
  | zero => intro σ j hu hres; exact absurd hu (fun h => h.z)
  | succ n ih =>
    intro σ j hu hres
    rw [f10_check_L] at hres
    refine v_iload_n (pc2 := 27) C 2 dX10_check_26 rfl rfl ?_
    refine v_bipush (pc2 := 29) C dX10_check_27 kb_6 rfl ?_
    refine v_icmpge (pc2 := 64) (pc3 := 32) C dX10_check_29 rfl rfl (fun h29 => ?_) (fun h29 => ?_)
    · have hres := (if_pos h29).symm.trans hres
      refine v_iload_n (pc2 := 65) C 1 dX10_check_64 rfl rfl ?_
      refine v_bipush (pc2 := 67) C dX10_check_65 kb_6 rfl ?_
      refine v_icmple (pc2 := 75) (pc3 := 70) C dX10_check_67 rfl rfl (fun h67 => ?_) (fun h67 => ?_)
      · have hres := (if_pos h67).symm.trans hres
        refine v_iconst (pc2 := 76) C dX10_check_75 ki_0 rfl ?_
        exact r_iS C E hres dX10_check_76
      · have hres := (if_neg h67).symm.trans hres
        refine v_bipush (pc2 := 72) C dX10_check_70 kb_99 rfl ?_
        refine v_goto (pc2 := 76) C dX10_check_72 rfl ?_
        exact r_iS C E hres dX10_check_76
    · have hres := (if_neg h29).symm.trans hres
      refine v_iload_n (pc2 := 33) C 2 dX10_check_32 rfl rfl ?_
      refine v_iload_n (pc2 := 34) C 1 dX10_check_33 rfl rfl ?_
      refine v_icmpge (pc2 := 54) (pc3 := 37) C dX10_check_34 rfl rfl (fun h34 => ?_) (fun h34 => ?_)
      · have hres := (if_pos h34).symm.trans hres
        refine v_iconst (pc2 := 55) C dX10_check_54 ki_1 rfl ?_
        refine v_iload_n (pc2 := 56) C 2 dX10_check_55 rfl rfl ?_
        refine v_iadd (pc2 := 57) C dX10_check_56 rfl ?_
        exact r_iS C E hres dX10_check_57
      · have hres := (if_neg h34).symm.trans hres
        refine v_aload_n (pc2 := 38) C 0 dX10_check_37 rfl rfl ?_
        refine vg_X10_tape (pc2 := 41) C lf_X10_58 dX10_check_38 rfl ?_
        refine v_iload_n (pc2 := 42) C 2 dX10_check_41 rfl rfl ?_
        refine al52 (pc2 := 43) C (in72 (hu.in h29 (by rw [lit_6]; decide))) dX10_check_42 rfl ?_
        refine v_i2l (pc2 := 44) C dX10_check_43 rfl ?_
        refine v_aload_n (pc2 := 45) C 0 dX10_check_44 rfl rfl ?_
        refine vg_X10_book (pc2 := 48) C lf_X10_51 dX10_check_45 rfl ?_
        refine v_iload_n (pc2 := 49) C 2 dX10_check_48 rfl rfl ?_
        refine al50 (pc2 := 50) C (in8 (hu.in h29 (by rw [lit_6]; decide))) dX10_check_49 rfl ?_
        refine v_lceq (pc2 := 58) (pc3 := 54) C dX10_check_50 dX10_check_51 rfl rfl (fun h50 => ?_) (fun h50 => ?_)
        · have hres := (if_pos h50).symm.trans hres
          refine v_iinc (pc2 := 61) (lv2 := [(2, _), (0, _), (1, _)]) C 2 dX10_check_58 rfl ki_1 (by decide) rfl rfl ?_
          refine v_goto (pc2 := 26) C dX10_check_61 rfl ?_
          exact v_lv [1, 2, 0] rfl (ih _ _ (hu.step h29 (by rw [lit_6]; decide) (by decide)) hres)
        · have hres := (if_neg h50).symm.trans hres
          refine v_iconst (pc2 := 55) C dX10_check_54 ki_1 rfl ?_
          refine v_iload_n (pc2 := 56) C 2 dX10_check_55 rfl rfl ?_
          refine v_iadd (pc2 := 57) C dX10_check_56 rfl ?_
          exact r_iS C E hres dX10_check_57
def f10_check (σ : St) : Int32 × St :=
  (if (gI (uI σ 28 (0 : Int32)) 25) = (0 : Int32) then (((f10_finding (uI σ 28 (0 : Int32)) (-1000000002 : Int32)).1), ((f10_finding (uI σ 28 (0 : Int32)) (-1000000002 : Int32)).2)) else (f10_check_L (gI σ 28) 7 (uI σ 28 (0 : Int32)) (0 : Int32)))
set_option maxHeartbeats 4000000 in
set_option maxRecDepth 100000 in
theorem bf10_check {X : CX} {Λ : LY} (C : OK X Λ cX10_check 3 RX10 1 21) {res : Int32 × St} (E : EN X Λ (some .int) (some (.int res.1)) res.2) (σ : St)  (hres : (f10_check σ) = res) : VV X Λ 3 0 [(0, .ref (adr Λ 37))] [] σ := by
  unfold f10_check at hres
  refine v_aload_n (pc2 := 1) C 0 dX10_check_0 rfl rfl ?_
  refine vg_X10_taped (pc2 := 4) C lf_X10_141 dX10_check_1 rfl ?_
  refine v_istore_n (pc2 := 5) (lv2 := [(1, _), (0, _)]) C dX10_check_4 (by decide) rfl rfl ?_
  refine v_aload_n (pc2 := 6) C 1 dX10_check_5 rfl rfl ?_
  refine v_iconst (pc2 := 7) C dX10_check_6 ki_0 rfl ?_
  refine vp_X10_taped (pc2 := 10) C lf_X10_141 dX10_check_7 rfl ?_
  refine v_aload_n (pc2 := 11) C 1 dX10_check_10 rfl rfl ?_
  refine vg_X10_went (pc2 := 14) C lf_X10_229 dX10_check_11 rfl ?_
  refine v_ifne (pc2 := 24) (pc3 := 17) C dX10_check_14 rfl rfl (fun h14 => ?_) (fun h14 => ?_)
  · have hres := (if_neg h14).symm.trans hres
    refine v_iconst (pc2 := 25) C dX10_check_24 ki_0 rfl ?_
    refine v_istore_n (pc2 := 26) (lv2 := [(2, _), (1, _), (0, _)]) C dX10_check_25 (by decide) rfl rfl ?_
    exact v_lv [2, 1, 0] rfl (bf10_check_L C E _ 7 _ _ UP.start  hres)
  · have hres := (if_pos h14).symm.trans hres
    refine v_aload_n (pc2 := 18) C 1 dX10_check_17 rfl rfl ?_
    refine v_ldc (pc2 := 20) C lc_X10_126 dX10_check_18 rfl ?_
    refine v_cVi (pc2 := 23) C kc_X10_120 (mX10_finding (xl X) Λ _ _ am2) (wd37 Λ _) rfl (by decide) rfl rfl (Nat.le_of_ble_eq_true rfl) dX10_check_20 rfl ?_
    exact r_iS C E hres dX10_check_23
theorem mX10_check (l : Launch) (Λ : LY) (σ : St)  : CT l Λ yX10_check cX10_check 3 (some .int) 1 21 [.ref (adr Λ 37)] σ (some (.int (f10_check σ).1)) (f10_check σ).2 := by
  refine CT_of (by decide +kernel) (Nat.le_of_ble_eq_true rfl) ?_
  intro X hX C E
  obtain ⟨res, hres⟩ : ∃ r, (f10_check σ) = r := ⟨_, rfl⟩
  rw [hres] at E
  exact bf10_check C E _   hres
def f10_found (σ : St) (a1 : Int32) : Int32 × St :=
  (if (f10_in a1 (-1000000005 : Int32) (-1000000001 : Int32)) = (0 : Int32) then (((f10_finding σ (-1000000001 : Int32)).1), ((f10_finding σ (-1000000001 : Int32)).2)) else ((gA σ 33 (Int32.toNatClampNeg ((-1000000000 : Int32) - a1))), σ))
set_option maxHeartbeats 4000000 in
set_option maxRecDepth 100000 in
theorem bf10_found {X : CX} {Λ : LY} (C : OK X Λ cX10_found 2 RX10 1 22) {res : Int32 × St} (E : EN X Λ (some .int) (some (.int res.1)) res.2) (σ : St) (a1 : Int32)  (hres : (f10_found σ a1) = res) : VV X Λ 2 0 [(0, .ref (adr Λ 37)), (1, .int (a1))] [] σ := by
  unfold f10_found at hres
  refine v_iload_n (pc2 := 1) C 1 dX10_found_0 rfl rfl ?_
  refine v_ldc (pc2 := 3) C lc_X10_124 dX10_found_1 rfl ?_
  refine v_ldc (pc2 := 5) C lc_X10_119 dX10_found_3 rfl ?_
  refine v_cSi (pc2 := 8) C kc_X10_75 (mX10_in (xl X) Λ _ _ _ _) (by decide) rfl rfl (Nat.le_of_ble_eq_true rfl) dX10_found_5 rfl ?_
  refine v_ifeq (pc2 := 23) (pc3 := 11) C dX10_found_8 rfl rfl (fun h8 => ?_) (fun h8 => ?_)
  · have hres := (if_pos h8).symm.trans hres
    refine v_aload_n (pc2 := 24) C 0 dX10_found_23 rfl rfl ?_
    refine v_ldc (pc2 := 26) C lc_X10_119 dX10_found_24 rfl ?_
    refine v_cVi (pc2 := 29) C kc_X10_120 (mX10_finding (xl X) Λ _ _ am1) (wd37 Λ _) rfl (by decide) rfl rfl (Nat.le_of_ble_eq_true rfl) dX10_found_26 rfl ?_
    exact r_iS C E hres dX10_found_29
  · have hres := (if_neg h8).symm.trans hres
    refine v_aload_n (pc2 := 12) C 0 dX10_found_11 rfl rfl ?_
    refine vg_X10_findings (pc2 := 15) C lf_X10_61 dX10_found_12 rfl ?_
    refine v_ldc (pc2 := 17) C lc_X10_71 dX10_found_15 rfl ?_
    refine v_iload_n (pc2 := 18) C 1 dX10_found_17 rfl rfl ?_
    refine v_isub (pc2 := 19) C dX10_found_18 rfl ?_
    refine al53 (pc2 := 20) C (found_inM h8) dX10_found_19 rfl ?_
    refine v_goto (pc2 := 29) C dX10_found_20 rfl ?_
    exact r_iS C E hres dX10_found_29
theorem mX10_found (l : Launch) (Λ : LY) (σ : St) (a1 : Int32)  : CT l Λ yX10_found cX10_found 2 (some .int) 1 22 [.ref (adr Λ 37), .int (a1)] σ (some (.int (f10_found σ a1).1)) (f10_found σ a1).2 := by
  refine CT_of (by decide +kernel) (Nat.le_of_ble_eq_true rfl) ?_
  intro X hX C E
  obtain ⟨res, hres⟩ : ∃ r, (f10_found σ a1) = r := ⟨_, rfl⟩
  rw [hres] at E
  exact bf10_found C E _ _   hres
