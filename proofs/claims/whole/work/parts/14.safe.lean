/-! what keeps indices in their rows -/
def Safe (σ : St) : Prop :=
  (0 ≤ (gI σ 2).toInt ∧ (gI σ 2).toInt ≤ 10) ∧ (∀ i : Nat, i < 10 → -12 ≤ (gA σ 15 i).toInt ∧ (gA σ 15 i).toInt ≤ 12) ∧ (0 ≤ (gI σ 0).toInt ∧ (gI σ 0).toInt ≤ 23) ∧
  (0 ≤ (gI σ 12).toInt ∧ (gI σ 12).toInt ≤ 72) ∧ (0 ≤ (gI σ 13).toInt ∧ (gI σ 13).toInt ≤ 10) ∧ (0 ≤ (gI σ 4).toInt ∧ (gI σ 4).toInt ≤ 10) ∧
  (0 ≤ (gI σ 20).toInt ∧ (gI σ 20).toInt ≤ 10) ∧ (0 ≤ (gI σ 22).toInt ∧ (gI σ 22).toInt ≤ 23) ∧ (0 ≤ (gI σ 28).toInt ∧ (gI σ 28).toInt ≤ 72) ∧ (-12 ≤ (gI σ 1).toInt ∧ (gI σ 1).toInt ≤ 12)
theorem Safe.cnt {σ : St} (h : Safe σ) : 0 ≤ (gI σ 2).toInt ∧ (gI σ 2).toInt ≤ 10 := h.1
theorem Safe.stp {σ : St} (h : Safe σ) : ∀ i : Nat, i < 10 → -12 ≤ (gA σ 15 i).toInt ∧ (gA σ 15 i).toInt ≤ 12 := h.2.1
theorem Safe.nh {σ : St} (h : Safe σ) : 0 ≤ (gI σ 0).toInt ∧ (gI σ 0).toInt ≤ 23 := h.2.2.1
theorem Safe.sz {σ : St} (h : Safe σ) : 0 ≤ (gI σ 12).toInt ∧ (gI σ 12).toInt ≤ 72 := h.2.2.2.1
theorem Safe.pcs {σ : St} (h : Safe σ) : 0 ≤ (gI σ 13).toInt ∧ (gI σ 13).toInt ≤ 10 := h.2.2.2.2.1
theorem Safe.mem {σ : St} (h : Safe σ) : 0 ≤ (gI σ 4).toInt ∧ (gI σ 4).toInt ≤ 10 := h.2.2.2.2.2.1
theorem Safe.mrw {σ : St} (h : Safe σ) : 0 ≤ (gI σ 20).toInt ∧ (gI σ 20).toInt ≤ 10 := h.2.2.2.2.2.2.1
theorem Safe.mnh {σ : St} (h : Safe σ) : 0 ≤ (gI σ 22).toInt ∧ (gI σ 22).toInt ≤ 23 := h.2.2.2.2.2.2.2.1
theorem Safe.mtp {σ : St} (h : Safe σ) : 0 ≤ (gI σ 28).toInt ∧ (gI σ 28).toInt ≤ 72 := h.2.2.2.2.2.2.2.2.1
theorem Safe.lt {σ : St} (h : Safe σ) : -12 ≤ (gI σ 1).toInt ∧ (gI σ 1).toInt ≤ 12 := h.2.2.2.2.2.2.2.2.2
def sfk (k : Nat) : Bool := k != 0 && k != 2 && k != 4 && k != 12 && k != 13 && k != 20 && k != 22 && k != 28 && k != 1
theorem sf_I {σ : St} {k : Nat} {v : Int32} (hk : sfk k = true) (h : Safe σ) : Safe (uI σ k v) := by
  simp only [sfk, Bool.and_eq_true, bne_iff_ne, ne_eq] at hk
  obtain ⟨⟨⟨⟨⟨⟨⟨⟨k0, k2⟩, k4⟩, k12⟩, k13⟩, k20⟩, k22⟩, k28⟩, k1⟩ := hk
  unfold Safe
  simp only [gI_uI, gA_uI, if_neg (fun e => k0 (Eq.symm e) : ¬ (0 = k)), if_neg (fun e => k2 (Eq.symm e) : ¬ (2 = k)), if_neg (fun e => k4 (Eq.symm e) : ¬ (4 = k)), if_neg (fun e => k12 (Eq.symm e) : ¬ (12 = k)), if_neg (fun e => k13 (Eq.symm e) : ¬ (13 = k)), if_neg (fun e => k20 (Eq.symm e) : ¬ (20 = k)), if_neg (fun e => k22 (Eq.symm e) : ¬ (22 = k)), if_neg (fun e => k28 (Eq.symm e) : ¬ (28 = k)), if_neg (fun e => k1 (Eq.symm e) : ¬ (1 = k))]
  exact h
theorem sf_J {σ : St} {k : Nat} {v : Int64} (h : Safe σ) : Safe (uJ σ k v) := h
theorem sf_B {σ : St} {k i : Nat} {v : Int64} (h : Safe σ) : Safe (uB σ k i v) := h
theorem sf_A {σ : St} {k i : Nat} {v : Int32} (hk : (k != 15) = true) (h : Safe σ) : Safe (uA σ k i v) := by
  simp only [bne_iff_ne, ne_eq] at hk
  unfold Safe
  simp only [gI_uA, gA_uA, if_neg (fun e => hk (Eq.symm e) : ¬ (15 = k))]
  exact h
theorem sf_A15 {σ : St} {i : Nat} {v : Int32} (hv : -12 ≤ v.toInt ∧ v.toInt ≤ 12) (h : Safe σ) : Safe (uA σ 15 i v) := by
  refine ⟨h.1, fun j hj => ?_, h.2.2⟩
  show -12 ≤ (upd (gA σ 15) i v j).toInt ∧ (upd (gA σ 15) i v j).toInt ≤ 12
  unfold upd
  split
  · exact hv
  · exact h.2.1 j hj
theorem sf_I0 {σ : St} {v : Int32} (hv : 0 ≤ v.toInt ∧ v.toInt ≤ 23) (h : Safe σ) : Safe (uI σ 0 v) := ⟨h.1, h.2.1, hv, h.2.2.2⟩
theorem sf_I2 {σ : St} {v : Int32} (hv : 0 ≤ v.toInt ∧ v.toInt ≤ 10) (h : Safe σ) : Safe (uI σ 2 v) := ⟨hv, h.2⟩
theorem sf_I12 {σ : St} {v : Int32} (hv : 0 ≤ v.toInt ∧ v.toInt ≤ 72) (h : Safe σ) : Safe (uI σ 12 v) := ⟨h.1, h.2.1, h.2.2.1, hv, h.2.2.2.2⟩
theorem sf_I13 {σ : St} {v : Int32} (hv : 0 ≤ v.toInt ∧ v.toInt ≤ 10) (h : Safe σ) : Safe (uI σ 13 v) := ⟨h.1, h.2.1, h.2.2.1, h.2.2.2.1, hv, h.2.2.2.2.2⟩
theorem sf_I4 {σ : St} {v : Int32} (hv : 0 ≤ v.toInt ∧ v.toInt ≤ 10) (h : Safe σ) : Safe (uI σ 4 v) := ⟨h.1, h.2.1, h.2.2.1, h.2.2.2.1, h.2.2.2.2.1, hv, h.2.2.2.2.2.2⟩
theorem sf_I20 {σ : St} {v : Int32} (hv : 0 ≤ v.toInt ∧ v.toInt ≤ 10) (h : Safe σ) : Safe (uI σ 20 v) := ⟨h.1, h.2.1, h.2.2.1, h.2.2.2.1, h.2.2.2.2.1, h.2.2.2.2.2.1, hv, h.2.2.2.2.2.2.2⟩
theorem sf_I22 {σ : St} {v : Int32} (hv : 0 ≤ v.toInt ∧ v.toInt ≤ 23) (h : Safe σ) : Safe (uI σ 22 v) := ⟨h.1, h.2.1, h.2.2.1, h.2.2.2.1, h.2.2.2.2.1, h.2.2.2.2.2.1, h.2.2.2.2.2.2.1, hv, h.2.2.2.2.2.2.2.2⟩
theorem sf_I28 {σ : St} {v : Int32} (hv : 0 ≤ v.toInt ∧ v.toInt ≤ 72) (h : Safe σ) : Safe (uI σ 28 v) := ⟨h.1, h.2.1, h.2.2.1, h.2.2.2.1, h.2.2.2.2.1, h.2.2.2.2.2.1, h.2.2.2.2.2.2.1, h.2.2.2.2.2.2.2.1, hv, h.2.2.2.2.2.2.2.2.2⟩
theorem sf_I1 {σ : St} {v : Int32} (hv : -12 ≤ v.toInt ∧ v.toInt ≤ 12) (h : Safe σ) : Safe (uI σ 1 v) := ⟨h.1, h.2.1, h.2.2.1, h.2.2.2.1, h.2.2.2.2.1, h.2.2.2.2.2.1, h.2.2.2.2.2.2.1, h.2.2.2.2.2.2.2.1, h.2.2.2.2.2.2.2.2.1, hv⟩
/-! numbers without wrapping -/
theorem i_rng (x : Int32) : -2147483648 ≤ x.toInt ∧ x.toInt < 2147483648 := ⟨Int32.le_toInt x, Int32.toInt_lt x⟩
theorem i_add {x y : Int32} (h1 : -2147483648 ≤ x.toInt + y.toInt) (h2 : x.toInt + y.toInt < 2147483648) : (x + y).toInt = x.toInt + y.toInt := by
  rw [Int32.toInt_add]; exact Int.bmod_eq_of_le (by omega) (by omega)
theorem i_sub {x y : Int32} (h1 : -2147483648 ≤ x.toInt - y.toInt) (h2 : x.toInt - y.toInt < 2147483648) : (x - y).toInt = x.toInt - y.toInt := by
  rw [Int32.toInt_sub]; exact Int.bmod_eq_of_le (by omega) (by omega)
theorem i_mul {x y : Int32} (h1 : -2147483648 ≤ x.toInt * y.toInt) (h2 : x.toInt * y.toInt < 2147483648) : (x * y).toInt = x.toInt * y.toInt := by
  rw [Int32.toInt_mul]; exact Int.bmod_eq_of_le (by omega) (by omega)
theorem i_neg {x : Int32} (h : x.toInt ≠ -2147483648) : (-x).toInt = -x.toInt := by
  have h0 := i_rng x
  rw [Int32.toInt_neg]; exact Int.bmod_eq_of_le (by omega) (by omega)
theorem i_add1 {x : Int32} {b : Int} (h : x.toInt < b) (hb : b ≤ 2147483647) : (x + (1 : Int32)).toInt = x.toInt + 1 := by
  have h0 := i_rng x
  exact i_add (by rw [lit_1]; omega) (by rw [lit_1]; omega)
/-- a counter that goes up to at most N, with its fuel -/
def UP (N : Nat) (a : Int32) (n : Nat) : Prop := 0 ≤ a.toInt ∧ a.toInt ≤ N ∧ (N : Int) + 1 ≤ a.toInt + n
theorem UP.z {N : Nat} {a : Int32} (h : UP N a 0) : False := by obtain ⟨h1, h2, h3⟩ := h; omega
theorem UP.start {N : Nat} : UP N (0 : Int32) (N + 1) := ⟨by rw [lit_0]; omega, by rw [lit_0]; omega, by rw [lit_0]; omega⟩
theorem UP.in {N : Nat} {a : Int32} {n : Nat} (h : UP N a n) {c : Int32} (hc : ¬ c ≤ a) (hN : c.toInt ≤ N) : vp_in a N := by
  have := t_nle hc rfl rfl
  exact vin h.1 (by omega)
theorem UP.step {N : Nat} {a : Int32} {n : Nat} (h : UP N a (n + 1)) {c : Int32} (hc : ¬ c ≤ a) (hN : c.toInt ≤ N) (hB : N ≤ 1000000) : UP N (a + (1 : Int32)) n := by
  have h1 := t_nle hc rfl rfl
  have h2 := i_add1 (x := a) (b := N) (by omega) (by omega)
  obtain ⟨h3, h4, h5⟩ := h
  exact ⟨by omega, by omega, by rw [h2]; omega⟩
theorem UP.step2 {N : Nat} {a : Int32} {n : Nat} (h : UP N a (n + 1)) {c : Int32} (hc : ¬ c < a) (hN : c.toInt + 1 ≤ N) (hB : N ≤ 1000000) : UP N (a + (1 : Int32)) n := by
  have h1 := t_nlt hc rfl rfl
  have h2 := i_add1 (x := a) (b := N) (by omega) (by omega)
  obtain ⟨h3, h4, h5⟩ := h
  exact ⟨by omega, by omega, by rw [h2]; omega⟩
/-- a counter that goes up to hi (at most 9) -/
def RG (hi : Int32) (a : Int32) (n : Nat) : Prop := 0 ≤ a.toInt ∧ a.toInt ≤ 10 ∧ hi.toInt ≤ 9 ∧ hi.toInt + 1 < a.toInt + n ∧ 0 < n
theorem RG.z {hi a : Int32} (h : RG hi a 0) : False := by obtain ⟨h1, h2, h3, h4, h5⟩ := h; omega
theorem RG.in {hi a : Int32} {n : Nat} (h : RG hi a n) (hc : ¬ hi < a) : vp_in a 10 := by
  have := t_nlt hc rfl rfl
  obtain ⟨h1, h2, h3, h4, h5⟩ := h
  exact vin (by omega) (by omega)
theorem RG.step {hi a : Int32} {n : Nat} (h : RG hi a (n + 1)) (hc : ¬ hi < a) : RG hi (a + (1 : Int32)) n := by
  have h0 := t_nlt hc rfl rfl
  obtain ⟨h1, h2, h3, h4, h5⟩ := h
  have h6 := i_add1 (x := a) (b := 10) (by omega) (by omega)
  exact ⟨by omega, by omega, by omega, by omega, by omega⟩
/-- a counter that goes down to 0 -/
def DN (a : Int32) (n : Nat) : Prop := 0 ≤ a.toInt ∧ a.toInt ≤ 9 ∧ a.toInt < n
theorem DN.z {a : Int32} (h : DN a 0) : False := by obtain ⟨h1, h2, h3⟩ := h; omega
theorem DN.in {a : Int32} {n : Nat} (h : DN a n) : vp_in a 10 := vin h.1 (by have := h.2.1; omega)
theorem pred_in {a : Int32} {N : Nat} (h0 : 0 < a.toInt) (h1 : a.toInt ≤ N) : vp_in (a - (1 : Int32)) N := by
  have h2 := i_rng a
  have h3 : (a - (1 : Int32)).toInt = a.toInt - 1 := by rw [i_sub (by rw [lit_1]; omega) (by rw [lit_1]; omega), lit_1]
  exact vin (by omega) (by omega)
theorem DN.pin {a : Int32} {n : Nat} (h : DN a n) (hc : ¬ a ≤ (0 : Int32)) : vp_in (a - (1 : Int32)) 10 := pred_in (t_nle hc rfl lit_0) (by have := h.2.1; omega)
theorem DN.step {a : Int32} {n : Nat} (h : DN a (n + 1)) (hc : ¬ a ≤ (0 : Int32)) : DN (a + (-1 : Int32)) n := by
  have h0 := t_nle hc rfl lit_0
  obtain ⟨h1, h2, h3⟩ := h
  have h4 : (a + (-1 : Int32)).toInt = a.toInt - 1 := by rw [i_add (by rw [lit_m1]; omega) (by rw [lit_m1]; omega), lit_m1]; omega
  exact ⟨by omega, by omega, by omega⟩
/-- a table's index from a step -/
theorem abs_in {x : Int32} (h0 : -12 ≤ x.toInt) (h1 : x.toInt ≤ 12) : vp_in (if (0 : Int32) ≤ x then x else (0 : Int32) - x) 13 := by
  split
  · rename_i h; have := t_le h lit_0 rfl; exact vin (by omega) (by omega)
  · rename_i h
    have h2 := t_nle h lit_0 rfl
    have h3 : ((0 : Int32) - x).toInt = 0 - x.toInt := by rw [i_sub (by rw [lit_0]; omega) (by rw [lit_0]; omega), lit_0]
    exact vin (by omega) (by omega)
theorem neg_in {x : Int32} (h0 : -12 ≤ x.toInt) (h1 : x.toInt < 0) : vp_in (-x) 13 := by
  have h2 := i_neg (x := x) (by omega)
  exact vin (by omega) (by omega)
theorem an1 : vp_in ((-1000000001 : Int32) - (-1000000001 : Int32)) 5 := by unfold vp_in; decide +kernel
theorem an2 : vp_in ((-1000000001 : Int32) - (-1000000002 : Int32)) 5 := by unfold vp_in; decide +kernel
theorem an3 : vp_in ((-1000000001 : Int32) - (-1000000003 : Int32)) 5 := by unfold vp_in; decide +kernel
theorem an4 : vp_in ((-1000000001 : Int32) - (-1000000004 : Int32)) 5 := by unfold vp_in; decide +kernel
theorem an5 : vp_in ((-1000000001 : Int32) - (-1000000005 : Int32)) 5 := by unfold vp_in; decide +kernel
theorem am1 : vp_in ((-1000000000 : Int32) - (-1000000001 : Int32)) 6 := by unfold vp_in; decide +kernel
theorem am2 : vp_in ((-1000000000 : Int32) - (-1000000002 : Int32)) 6 := by unfold vp_in; decide +kernel
theorem am3 : vp_in ((-1000000000 : Int32) - (-1000000003 : Int32)) 6 := by unfold vp_in; decide +kernel
theorem am4 : vp_in ((-1000000000 : Int32) - (-1000000004 : Int32)) 6 := by unfold vp_in; decide +kernel
theorem am5 : vp_in ((-1000000000 : Int32) - (-1000000005 : Int32)) 6 := by unfold vp_in; decide +kernel
theorem in_lit {i : Int32} {N : Nat} (h : (decide (0 ≤ i.toInt) && decide (i.toInt < N)) = true) : vp_in i N := by
  simp only [Bool.and_eq_true, decide_eq_true_eq] at h
  exact vin h.1 h.2
