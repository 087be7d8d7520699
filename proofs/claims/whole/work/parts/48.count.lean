/-! counting -/
theorem j_rng (x : Int64) : -9223372036854775808 ≤ x.toInt ∧ x.toInt < 9223372036854775808 := ⟨Int64.le_toInt x, Int64.toInt_lt x⟩
theorem j_add {x y : Int64} (h1 : -9223372036854775808 ≤ x.toInt + y.toInt) (h2 : x.toInt + y.toInt < 9223372036854775808) : (x + y).toInt = x.toInt + y.toInt := by
  rw [Int64.toInt_add]; exact Int.bmod_eq_of_le (by omega) (by omega)
theorem j_sub {x y : Int64} (h1 : -9223372036854775808 ≤ x.toInt - y.toInt) (h2 : x.toInt - y.toInt < 9223372036854775808) : (x - y).toInt = x.toInt - y.toInt := by
  rw [Int64.toInt_sub]; exact Int.bmod_eq_of_le (by omega) (by omega)
theorem j_mul {x y : Int64} (h1 : -9223372036854775808 ≤ x.toInt * y.toInt) (h2 : x.toInt * y.toInt < 9223372036854775808) : (x * y).toInt = x.toInt * y.toInt := by
  rw [Int64.toInt_mul]; exact Int.bmod_eq_of_le (by omega) (by omega)
theorem j_eq {a b : Int64} : a = b ↔ a.toInt = b.toInt := Int64.toInt_inj.symm
theorem jl_0 : (0 : Int64).toInt = 0 := by decide
theorem jl_3 : (3 : Int64).toInt = 3 := by decide
noncomputable def cnt (P : Int → Prop) (a : Int) : Nat → Int
  | 0 => 0
  | n + 1 => cnt P a n + @ite Int (P (a + n)) (Classical.propDecidable _) 1 0
theorem cnt_t {P : Int → Prop} {a : Int} {n : Nat} (h : P (a + n)) : cnt P a (n + 1) = cnt P a n + 1 := by rw [cnt, if_pos h]
theorem cnt_f {P : Int → Prop} {a : Int} {n : Nat} (h : ¬ P (a + n)) : cnt P a (n + 1) = cnt P a n := by rw [cnt, if_neg h]; omega
theorem cnt_nn (P : Int → Prop) (a : Int) : ∀ n, 0 ≤ cnt P a n
  | 0 => Int.le_refl _
  | n + 1 => by
    have := cnt_nn P a n
    by_cases h : P (a + n)
    · rw [cnt_t h]; omega
    · rw [cnt_f h]; omega
theorem cnt_add (P : Int → Prop) (a : Int) (m : Nat) : ∀ n, cnt P a (m + n) = cnt P a m + cnt P (a + m) n
  | 0 => by rw [cnt]; exact (Int.add_zero _).symm
  | n + 1 => by
    have ih := cnt_add P a m n
    have e : a + ((m + n : Nat) : Int) = a + m + n := by omega
    rw [← Nat.add_assoc]
    by_cases h : P (a + m + n)
    · rw [cnt_t (show P (a + ((m + n : Nat) : Int)) by rw [e]; exact h), cnt_t h]; omega
    · rw [cnt_f (show ¬ P (a + ((m + n : Nat) : Int)) by rw [e]; exact h), cnt_f h]; omega
theorem cnt_all {P : Int → Prop} {a : Int} : ∀ {n : Nat}, (∀ t, a ≤ t → t < a + n → P t) → cnt P a n = n
  | 0, _ => rfl
  | n + 1, h => by
    rw [cnt_t (h _ (by omega) (by omega)), cnt_all (fun t h1 h2 => h t h1 (by omega))]; omega
theorem cnt_none {P : Int → Prop} {a : Int} : ∀ {n : Nat}, (∀ t, a ≤ t → t < a + n → ¬ P t) → cnt P a n = 0
  | 0, _ => rfl
  | n + 1, h => by
    rw [cnt_f (h _ (by omega) (by omega)), cnt_none (fun t h1 h2 => h t h1 (by omega))]
theorem cnt_cg {P Q : Int → Prop} {a : Int} : ∀ {n : Nat}, (∀ t, a ≤ t → t < a + n → (P t ↔ Q t)) → cnt P a n = cnt Q a n
  | 0, _ => rfl
  | n + 1, h => by
    have ih := cnt_cg (n := n) (fun t h1 h2 => h t h1 (by omega))
    have q := h (a + n) (by omega) (by omega)
    by_cases c : P (a + n)
    · rw [cnt_t c, cnt_t (q.mp c), ih]
    · rw [cnt_f c, cnt_f (fun g => c (q.mpr g)), ih]
theorem cnt_or {P Q R : Int → Prop} {a : Int} : ∀ {n : Nat}, (∀ t, a ≤ t → t < a + n → (R t ↔ P t ∨ Q t) ∧ ¬ (P t ∧ Q t)) → cnt R a n = cnt P a n + cnt Q a n
  | 0, _ => rfl
  | n + 1, h => by
    have ih := cnt_or (n := n) (fun t h1 h2 => h t h1 (by omega))
    obtain ⟨q1, q2⟩ := h (a + n) (by omega) (by omega)
    by_cases c : P (a + n)
    · rw [cnt_t c, cnt_t (q1.mpr (Or.inl c)), cnt_f (fun g => q2 ⟨c, g⟩), ih]; omega
    · by_cases c2 : Q (a + n)
      · rw [cnt_f c, cnt_t (q1.mpr (Or.inr c2)), cnt_t c2, ih]; omega
      · rw [cnt_f c, cnt_f c2, cnt_f (fun g => (q1.mp g).elim c c2), ih]
theorem cnt_pos {P : Int → Prop} {a : Int} : ∀ {n : Nat}, 0 < cnt P a n ↔ ∃ t, a ≤ t ∧ t < a + n ∧ P t
  | 0 => ⟨fun h => absurd h (by rw [cnt]; omega), fun ⟨t, h1, h2, _⟩ => by omega⟩
  | n + 1 => by
    have ih := cnt_pos (P := P) (a := a) (n := n)
    have nn := cnt_nn P a n
    by_cases c : P (a + n)
    · rw [cnt_t c]
      exact ⟨fun _ => ⟨a + n, by omega, by omega, c⟩, fun _ => by omega⟩
    · rw [cnt_f c, ih]
      constructor
      · rintro ⟨t, h1, h2, h3⟩; exact ⟨t, h1, by omega, h3⟩
      · rintro ⟨t, h1, h2, h3⟩
        refine ⟨t, h1, ?_, h3⟩
        by_cases e : t = a + n
        · rw [e] at h3; exact absurd h3 c
        · omega
theorem cnt_iv {a u v : Int} {n : Nat} (h1 : a ≤ u) (h2 : u ≤ v) (h3 : v ≤ a + n) : cnt (fun t => u ≤ t ∧ t < v) a n = v - u := by
  obtain ⟨p, hp⟩ : ∃ p : Nat, (p : Int) = u - a := ⟨(u - a).toNat, by omega⟩
  obtain ⟨q, hq⟩ : ∃ q : Nat, (q : Int) = v - u := ⟨(v - u).toNat, by omega⟩
  obtain ⟨s, hs⟩ : ∃ s : Nat, (s : Int) = a + n - v := ⟨(a + n - v).toNat, by omega⟩
  have e : n = (p + q) + s := by omega
  rw [e, cnt_add, cnt_add, cnt_none (P := fun t => u ≤ t ∧ t < v) (fun t g1 g2 => by rintro ⟨w1, w2⟩; omega), cnt_all (P := fun t => u ≤ t ∧ t < v) (a := a + p) (fun t g1 g2 => ⟨by omega, by omega⟩), cnt_none (P := fun t => u ≤ t ∧ t < v) (fun t g1 g2 => by rintro ⟨w1, w2⟩; omega)]
  omega
theorem cnt3 (P : Int → Prop) (a : Int) : ∀ n : Nat, cnt (fun t => P (t / 3)) (3 * a) (3 * n) = 3 * cnt P a n
  | 0 => rfl
  | n + 1 => by
    have ih := cnt3 P a n
    have e : 3 * (n + 1) = 3 * n + 1 + 1 + 1 := by omega
    have e0 : (3 * a + ((3 * n : Nat) : Int)) / 3 = a + n := by omega
    have e1 : (3 * a + ((3 * n + 1 : Nat) : Int)) / 3 = a + n := by omega
    have e2 : (3 * a + ((3 * n + 1 + 1 : Nat) : Int)) / 3 = a + n := by omega
    rw [e]
    by_cases c : P (a + n)
    · rw [cnt_t (P := fun t => P (t / 3)) (show P (_ / 3) by rw [e2]; exact c), cnt_t (P := fun t => P (t / 3)) (show P (_ / 3) by rw [e1]; exact c), cnt_t (P := fun t => P (t / 3)) (show P (_ / 3) by rw [e0]; exact c), cnt_t c, ih]; omega
    · rw [cnt_f (P := fun t => P (t / 3)) (show ¬ P (_ / 3) by rw [e2]; exact c), cnt_f (P := fun t => P (t / 3)) (show ¬ P (_ / 3) by rw [e1]; exact c), cnt_f (P := fun t => P (t / 3)) (show ¬ P (_ / 3) by rw [e0]; exact c), cnt_f c, ih]
/-! the reference's sweep -/
def AH (x r k : Int) : Prop := (0 < x ∧ r < k) ∨ (x < 0 ∧ k < r)
theorem ahead_iff {τ : St} {k r h : Int32} : ¬ f10_isAhead τ k r h = 0 ↔ AH (gA τ 27 (Int32.toNatClampNeg h)).toInt r.toInt k.toInt := by
  unfold f10_isAhead AH
  generalize gA τ 27 (Int32.toNatClampNeg h) = x
  by_cases c1 : x ≤ 0
  · rw [if_pos c1]
    have t1 := t_le c1 rfl lit_0
    by_cases c2 : (0 : Int32) ≤ x
    · rw [if_pos c2]
      have t2 := t_le c2 lit_0 rfl
      exact ⟨fun q => absurd rfl q, fun q => by omega⟩
    · rw [if_neg c2]
      have t2 := t_nle c2 lit_0 rfl
      by_cases c3 : r ≤ k
      · rw [if_pos c3]
        have t3 := t_le c3 rfl rfl
        exact ⟨fun q => absurd rfl q, fun q => by omega⟩
      · rw [if_neg c3]
        have t3 := t_nle c3 rfl rfl
        exact ⟨fun _ => by omega, fun _ => by decide⟩
  · rw [if_neg c1]
    have t1 := t_nle c1 rfl lit_0
    by_cases c3 : k ≤ r
    · rw [if_pos c3]
      have t3 := t_le c3 rfl rfl
      exact ⟨fun q => absurd rfl q, fun q => by omega⟩
    · rw [if_neg c3]
      have t3 := t_nle c3 rfl rfl
      exact ⟨fun _ => by omega, fun _ => by decide⟩
theorem nI_t10 {i : Nat} (h : i < 10) : (nI i).toInt = i := by
  have : ∀ i : Nat, i < 10 → (nI i).toInt = i := by decide +kernel
  exact this i h
theorem nI_N {r : Int32} (h0 : 0 ≤ r.toInt) (h1 : r.toInt < 10) : nI (Int32.toNatClampNeg r) = r := by
  obtain ⟨j, hj, rfl⟩ := vp_in_of (vin h0 (by omega : r.toInt < (10 : Nat))) (by decide)
  have : ∀ j : Nat, j < 10 → nI (Int32.toNatClampNeg (nI j)) = nI j := by decide +kernel
  exact this j hj
theorem N_nI {i : Nat} (h : i < 10) : Int32.toNatClampNeg (nI i) = i := by
  have : ∀ i : Nat, i < 10 → Int32.toNatClampNeg (nI i) = i := by decide +kernel
  exact this i h
/-- the looks as whole numbers -/
def LkZ (τ : St) (h : Int32) (c : Int) (L0 L1 : Nat → Int) : Prop := ∀ i : Nat, (i : Int) < c → ((f10_look τ (nI i) 0 h).toInt = L0 i ∧ (f10_look τ (nI i) 1 h).toInt = L1 i) ∧ (-1000000000000 ≤ L0 i ∧ L0 i ≤ 1000000000000) ∧ (-1000000000000 ≤ L1 i ∧ L1 i ≤ 1000000000000)
def Cv (L0 L1 : Nat → Int) (c x r t : Int) : Prop := ∃ k : Nat, (k : Int) < c ∧ AH x r k ∧ min (L0 k) (L1 k) ≤ t ∧ t < max (L0 k) (L1 k)
theorem loM_Z {τ : St} {h : Int32} {c : Int} {L0 L1 : Nat → Int} (H : LkZ τ h c L0 L1) {i : Nat} (hi : (i : Int) < c) : (loM τ h i).toInt = 3 * min (L0 i) (L1 i) ∧ (hiM τ h i).toInt = 3 * max (L0 i) (L1 i) := by
  obtain ⟨⟨a, b⟩, p, q⟩ := H i hi
  have e0 : ((3 : Int64) * f10_look τ (nI i) 0 h).toInt = 3 * L0 i := by rw [j_mul (by rw [jl_3, a]; omega) (by rw [jl_3, a]; omega), jl_3, a]
  have e1 : ((3 : Int64) * f10_look τ (nI i) 1 h).toInt = 3 * L1 i := by rw [j_mul (by rw [jl_3, b]; omega) (by rw [jl_3, b]; omega), jl_3, b]
  unfold loM hiM f10_shaded_lo f10_shaded_hi
  by_cases g : (3 : Int64) * f10_look τ (nI i) 1 h ≤ (3 : Int64) * f10_look τ (nI i) 0 h
  · rw [if_pos g, if_pos g]
    rw [l_le] at g
    omega
  · rw [if_neg g, if_neg g]
    rw [l_le] at g
    omega
theorem swI {τ : St} {r h : Int32} {pt : Int64} {c : Int} {L0 L1 : Nat → Int} (hc : (gI τ 20).toInt = c) (hc10 : c ≤ 10) (H : LkZ τ h c L0 L1) {x : Int} (hx : (gA τ 27 (Int32.toNatClampNeg h)).toInt = x) : ∀ (n : Nat) (fr nx : Int64) (k : Int32), 0 ≤ k.toInt → c ≤ k.toInt + n →
    (fr.toInt ≤ (f10_shaded_I τ r h pt n fr nx k).1.toInt ∧ ∀ i : Nat, k.toInt ≤ i → (i : Int) < c → AH x r.toInt i → 3 * min (L0 i) (L1 i) ≤ pt.toInt → 3 * max (L0 i) (L1 i) ≤ (f10_shaded_I τ r h pt n fr nx k).1.toInt) ∧
    ((f10_shaded_I τ r h pt n fr nx k).1 = fr ∨ ∃ i : Nat, (i : Int) < c ∧ AH x r.toInt i ∧ 3 * min (L0 i) (L1 i) ≤ pt.toInt ∧ 3 * max (L0 i) (L1 i) = (f10_shaded_I τ r h pt n fr nx k).1.toInt) ∧
    ((f10_shaded_I τ r h pt n fr nx k).2.toInt ≤ nx.toInt ∧ ∀ i : Nat, k.toInt ≤ i → (i : Int) < c → AH x r.toInt i → pt.toInt < 3 * min (L0 i) (L1 i) → min (L0 i) (L1 i) < max (L0 i) (L1 i) → (f10_shaded_I τ r h pt n fr nx k).2.toInt ≤ 3 * min (L0 i) (L1 i)) ∧
    (pt.toInt < nx.toInt → pt.toInt < (f10_shaded_I τ r h pt n fr nx k).2.toInt)
  | 0, fr, nx, k, hk, hf => ⟨⟨Int.le_refl _, fun i h1 h2 => by omega⟩, Or.inl rfl, ⟨Int.le_refl _, fun i h1 h2 => by omega⟩, fun h => h⟩
  | n + 1, fr, nx, k, hk, hf => by
    rw [f10_shaded_I]
    by_cases h1 : gI τ 20 ≤ k
    · rw [if_pos h1]
      rw [i_le, hc] at h1
      exact ⟨⟨Int.le_refl _, fun i h1 h2 => by omega⟩, Or.inl rfl, ⟨Int.le_refl _, fun i h1 h2 => by omega⟩, fun h => h⟩
    rw [if_neg h1]
    rw [i_le, hc] at h1
    have t3 := i_add1 (x := k) (b := 10) (by omega) (by omega)
    obtain ⟨i0, hi0, rfl⟩ := vp_in_of (vin hk (by omega : k.toInt < (10 : Nat))) (by decide)
    have ei := nI_t10 hi0
    rw [ei] at t3 h1 hf
    have ha := ahead_iff (τ := τ) (k := nI i0) (r := r) (h := h)
    rw [hx, ei] at ha
    by_cases h2 : f10_isAhead τ (nI i0) r h = 0
    · rw [if_pos h2]
      obtain ⟨⟨y1, y2⟩, y3, ⟨y4, y5⟩, y6⟩ := swI (pt := pt) (r := r) hc hc10 H hx n fr nx (nI i0 + 1) (by omega) (by omega)
      refine ⟨⟨y1, fun i g1 g2 g3 => ?_⟩, y3, ⟨y4, fun i g1 g2 g3 => ?_⟩, y6⟩
      · refine y2 i ?_ g2 g3
        by_cases e : i = i0
        · subst e; exact absurd h2 (ha.mpr g3)
        · omega
      · refine y5 i ?_ g2 g3
        by_cases e : i = i0
        · subst e; exact absurd h2 (ha.mpr g3)
        · omega
    · rw [if_neg h2]
      have ah := ha.mp h2
      obtain ⟨e1, e2⟩ := loM_Z H (i := i0) (by omega)
      obtain ⟨⟨y1, y2⟩, y3, ⟨y4, y5⟩, y6⟩ := swI (pt := pt) (r := r) hc hc10 H hx n (f10_shaded_fa pt (loM τ h i0) (hiM τ h i0) fr) (f10_shaded_nx pt (loM τ h i0) (hiM τ h i0) nx) (nI i0 + 1) (by omega) (by omega)
      have fa1 : fr.toInt ≤ (f10_shaded_fa pt (loM τ h i0) (hiM τ h i0) fr).toInt ∧ (3 * min (L0 i0) (L1 i0) ≤ pt.toInt → 3 * max (L0 i0) (L1 i0) ≤ (f10_shaded_fa pt (loM τ h i0) (hiM τ h i0) fr).toInt) ∧ (f10_shaded_fa pt (loM τ h i0) (hiM τ h i0) fr = fr ∨ (3 * min (L0 i0) (L1 i0) ≤ pt.toInt ∧ 3 * max (L0 i0) (L1 i0) = (f10_shaded_fa pt (loM τ h i0) (hiM τ h i0) fr).toInt)) := by
        unfold f10_shaded_fa
        by_cases g1 : pt < loM τ h i0
        · rw [if_pos g1]; rw [l_lt] at g1
          exact ⟨Int.le_refl _, fun q => by omega, Or.inl rfl⟩
        · rw [if_neg g1]; rw [l_lt] at g1
          by_cases g2 : hiM τ h i0 ≤ fr
          · rw [if_pos g2]; rw [l_le] at g2
            exact ⟨Int.le_refl _, fun q => by omega, Or.inl rfl⟩
          · rw [if_neg g2]; rw [l_le] at g2
            exact ⟨by omega, fun q => by omega, Or.inr ⟨by omega, by omega⟩⟩
      have nx1 : (f10_shaded_nx pt (loM τ h i0) (hiM τ h i0) nx).toInt ≤ nx.toInt ∧ (pt.toInt < 3 * min (L0 i0) (L1 i0) → min (L0 i0) (L1 i0) < max (L0 i0) (L1 i0) → (f10_shaded_nx pt (loM τ h i0) (hiM τ h i0) nx).toInt ≤ 3 * min (L0 i0) (L1 i0)) ∧ (pt.toInt < nx.toInt → pt.toInt < (f10_shaded_nx pt (loM τ h i0) (hiM τ h i0) nx).toInt) := by
        unfold f10_shaded_nx
        by_cases g1 : loM τ h i0 ≤ pt
        · rw [if_pos g1]; rw [l_le] at g1
          exact ⟨Int.le_refl _, fun q => by omega, fun q => q⟩
        · rw [if_neg g1]; rw [l_le] at g1
          by_cases g2 : nx ≤ loM τ h i0
          · rw [if_pos g2]; rw [l_le] at g2
            exact ⟨Int.le_refl _, fun q _ => by omega, fun q => q⟩
          · rw [if_neg g2]; rw [l_le] at g2
            by_cases g3 : hiM τ h i0 ≤ loM τ h i0
            · rw [if_pos g3]; rw [l_le] at g3
              exact ⟨Int.le_refl _, fun q _ => by omega, fun q => q⟩
            · rw [if_neg g3]
              exact ⟨by omega, fun q _ => by omega, fun q => by omega⟩
      obtain ⟨fa1, fa2, fa3⟩ := fa1
      obtain ⟨nx1, nx2, nx3⟩ := nx1
      refine ⟨⟨Int.le_trans fa1 y1, fun i g1 g2 g3 g4 => ?_⟩, ?_, ⟨Int.le_trans y4 nx1, fun i g1 g2 g3 g4 g5 => ?_⟩, fun q => y6 (nx3 q)⟩
      · by_cases e : i = i0
        · subst e; exact Int.le_trans (fa2 g4) y1
        · exact y2 i (by omega) g2 g3 g4
      · rcases y3 with q | q
        · rcases fa3 with w | ⟨w1, w2⟩
          · exact Or.inl (q.trans w)
          · exact Or.inr ⟨i0, by omega, ah, w1, w2.trans (congrArg Int64.toInt q).symm⟩
        · exact Or.inr q
      · by_cases e : i = i0
        · subst e; exact Int.le_trans y4 (nx2 g4 g5)
        · exact y5 i (by omega) g2 g3 g4 g5
theorem swW {τ : St} (hs : Safe τ) {r h : Int32} {c : Int} {L0 L1 : Nat → Int} (hc : (gI τ 20).toInt = c) (hc10 : c ≤ 10) (H : LkZ τ h c L0 L1) {x : Int} (hx : (gA τ 27 (Int32.toNatClampNeg h)).toInt = x) (to : Int64) (hto : to.toInt ≤ 10000000000000) : ∀ (n : Nat) (su pt : Int64) (m : Nat), mu τ r h to pt < n → -10000000000000 ≤ pt.toInt → 0 ≤ su.toInt → su.toInt + m ≤ 100000000000000 → pt.toInt + m = to.toInt →
    (f10_shaded_W τ r h to n su pt).toInt = su.toInt + cnt (fun t => Cv L0 L1 c x r.toInt (t / 3)) pt.toInt m
  | 0, su, pt, m, hm, _, _, _, _ => absurd hm (Nat.not_lt_zero _)
  | n + 1, su, pt, m, hm, hpt, hsu, hb, hmm => by
    rw [f10_shaded_W]
    by_cases h1 : to ≤ pt
    · rw [if_pos h1]
      rw [l_le] at h1
      have : m = 0 := by omega
      subst this
      rw [cnt]; omega
    rw [if_neg h1]
    have hc0 : 0 ≤ (0 : Int32).toInt := by rw [lit_0]; omega
    have hma := mu_a hs hm h1
    have hmb := mu_b hs hm h1
    obtain ⟨⟨y1, y2⟩, y3, ⟨y4, y5⟩, y6⟩ := swI (τ := τ) (r := r) (h := h) (pt := pt) hc hc10 H hx 11 pt to 0 hc0 (by rw [lit_0]; omega)
    rw [l_le] at h1
    rw [lit_0] at y2 y5
    generalize f10_shaded_I τ r h pt 11 pt to (0 : Int32) = R at *
    obtain ⟨fr, nx⟩ := R
    dsimp only at *
    by_cases h2 : fr ≤ pt
    · rw [if_pos h2]
      rw [l_le] at h2
      have q := y6 (by omega)
      obtain ⟨m1, hm1⟩ : ∃ m1 : Nat, (m1 : Int) = nx.toInt - pt.toInt := ⟨(nx.toInt - pt.toInt).toNat, by omega⟩
      obtain ⟨m2, hm2⟩ : ∃ m2 : Nat, (m2 : Int) = to.toInt - nx.toInt := ⟨(to.toInt - nx.toInt).toNat, by omega⟩
      have em : m = m1 + m2 := by omega
      rw [swW hs hc hc10 H hx to hto n su nx m2 hmb (by omega) hsu (by omega) (by omega), em, cnt_add, show pt.toInt + (m1 : Int) = nx.toInt by omega, cnt_none (a := pt.toInt) (n := m1)]
      · omega
      · rintro t g1 g2 ⟨k, k1, k2, k3, k4⟩
        by_cases g : 3 * min (L0 k) (L1 k) ≤ pt.toInt
        · have := y2 k (by omega) k1 k2 g; omega
        · have := y5 k (by omega) k1 k2 (by omega) (by omega); omega
    · rw [if_neg h2]
      have hma2 := hma h2
      rw [l_le] at h2
      have een : (f10_shaded_en to fr).toInt = min to.toInt fr.toInt := by
        unfold f10_shaded_en
        by_cases g : to ≤ fr
        · rw [if_pos g]; rw [l_le] at g; omega
        · rw [if_neg g]; rw [l_le] at g; omega
      generalize f10_shaded_en to fr = en at *
      have es : (en - pt).toInt = en.toInt - pt.toInt := j_sub (by omega) (by omega)
      have ea : (su + (en - pt)).toInt = su.toInt + (en.toInt - pt.toInt) := by rw [j_add (by rw [es]; omega) (by rw [es]; omega), es]
      obtain ⟨m1, hm1⟩ : ∃ m1 : Nat, (m1 : Int) = en.toInt - pt.toInt := ⟨(en.toInt - pt.toInt).toNat, by omega⟩
      obtain ⟨m2, hm2⟩ : ∃ m2 : Nat, (m2 : Int) = to.toInt - en.toInt := ⟨(to.toInt - en.toInt).toNat, by omega⟩
      have em : m = m1 + m2 := by omega
      rw [swW hs hc hc10 H hx to hto n (su + (en - pt)) en m2 hma2 (by omega) (by omega) (by omega) (by omega), em, cnt_add, show pt.toInt + (m1 : Int) = en.toInt by omega, cnt_all (a := pt.toInt) (n := m1), ea]
      · omega
      · intro t g1 g2
        rcases y3 with q | ⟨k, k1, k2, k3, k4⟩
        · rw [q] at h2; omega
        · exact ⟨k, k1, k2, by omega, by omega⟩
theorem sw_spec {τ : St} (hs : Safe τ) {r h : Int32} {c : Int} {L0 L1 : Nat → Int} (hc : (gI τ 20).toInt = c) (hc10 : c ≤ 10) (H : LkZ τ h c L0 L1) {x : Int} (hx : (gA τ 27 (Int32.toNatClampNeg h)).toInt = x) {fr to : Int64} (m : Nat) (hto : to.toInt ≤ 10000000000000) (hfr : -10000000000000 ≤ fr.toInt) (hm : fr.toInt + m = to.toInt) : (f10_shaded τ r h fr to).toInt = cnt (fun t => Cv L0 L1 c x r.toInt (t / 3)) fr.toInt m := by
  unfold f10_shaded
  rw [swW hs hc hc10 H hx to hto 22 0 fr m (mu_lt τ r h to fr) hfr (by rw [jl_0]; omega) (by rw [jl_0]; omega) hm, jl_0]
  omega
