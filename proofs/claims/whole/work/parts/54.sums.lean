/-! sums over rows -/
def sN (g : Nat → Int) : Nat → Int
  | 0 => 0
  | n + 1 => sN g n + g n
theorem sN_s (g : Nat → Int) (n : Nat) : sN g (n + 1) = sN g n + g n := rfl
theorem sN_z (g : Nat → Int) : sN g 0 = 0 := rfl
theorem sN_cg {f g : Nat → Int} : ∀ {n : Nat}, (∀ i, i < n → f i = g i) → sN f n = sN g n
  | 0, _ => rfl
  | n + 1, h => by rw [sN_s, sN_s, sN_cg (fun i hi => h i (by omega)), h n (by omega)]
theorem sN_add (f g : Nat → Int) : ∀ n, sN (fun i => f i + g i) n = sN f n + sN g n
  | 0 => rfl
  | n + 1 => by
    have a : sN (fun i => f i + g i) (n + 1) = sN (fun i => f i + g i) n + (f n + g n) := rfl
    have b := sN_s f n
    have c := sN_s g n
    have d := sN_add f g n
    omega
theorem sN_nn {f : Nat → Int} : ∀ {n : Nat}, (∀ i, i < n → 0 ≤ f i) → 0 ≤ sN f n
  | 0, _ => Int.le_refl _
  | n + 1, h => by
    have a := sN_s f n
    have b := sN_nn (n := n) (fun i hi => h i (by omega))
    have c := h n (by omega)
    omega
theorem sN_bd {f : Nat → Int} : ∀ {n : Nat}, (∀ i, i < n → 0 ≤ f i ∧ f i ≤ 2000000) → 0 ≤ sN f n ∧ sN f n ≤ 2000000 * n
  | 0, _ => ⟨Int.le_refl _, Int.le_refl _⟩
  | n + 1, h => by
    have a := sN_s f n
    have b := sN_bd (n := n) (fun i hi => h i (by omega))
    have c := h n (by omega)
    omega
theorem sN_b1 {f : Nat → Int} : ∀ {n : Nat}, (∀ i, i < n → 0 ≤ f i ∧ f i ≤ 1) → 0 ≤ sN f n ∧ sN f n ≤ n
  | 0, _ => ⟨Int.le_refl _, Int.le_refl _⟩
  | n + 1, h => by
    have a := sN_s f n
    have b := sN_b1 (n := n) (fun i hi => h i (by omega))
    have c := h n (by omega)
    omega
theorem sN_one {f : Nat → Int} : ∀ {n : Nat}, (∀ i, i < n → f i = 1) → sN f n = n
  | 0, _ => rfl
  | n + 1, h => by
    have a := sN_s f n
    have b := sN_one (n := n) (fun i hi => h i (by omega))
    have c := h n (by omega)
    omega
theorem sN_le {f : Nat → Int} {q : Nat} : ∀ {n : Nat}, (∀ i, i < n → 0 ≤ f i ∧ f i ≤ 1) → (∀ i, q ≤ i → i < n → f i = 0) → sN f n ≤ q
  | 0, _, _ => by have := sN_z f; omega
  | n + 1, h, g => by
    have a := sN_s f n
    by_cases e : q ≤ n
    · have b := sN_le (q := q) (n := n) (fun i hi => h i (by omega)) (fun i h1 h2 => g i h1 (by omega))
      have c := g n e (by omega)
      omega
    · have b := sN_b1 h
      omega
theorem sN_ge {f : Nat → Int} {q : Nat} : ∀ {n : Nat}, (∀ i, i < n → 0 ≤ f i ∧ f i ≤ 1) → (∀ i, i ≤ q → i < n → f i = 1) → q < n → (q : Int) + 1 ≤ sN f n
  | 0, _, _, h => by omega
  | n + 1, h, g, hq => by
    have a := sN_s f n
    by_cases e : q = n
    · have b := sN_one (f := f) (n := n + 1) (fun i hi => g i (by omega) hi)
      omega
    · have b := sN_ge (q := q) (n := n) (fun i hi => h i (by omega)) (fun i h1 h2 => g i h1 (by omega)) (by omega)
      have c := h n (by omega)
      omega
theorem sN_pos {f : Nat → Int} {q : Nat} : ∀ {n : Nat}, (∀ i, i < n → 0 ≤ f i) → q < n → f q ≤ sN f n
  | 0, _, h => by omega
  | n + 1, h, hq => by
    have a := sN_s f n
    by_cases e : q = n
    · have b := sN_nn (f := f) (n := n) (fun i hi => h i (by omega))
      rw [e]; omega
    · have b := sN_pos (q := q) (n := n) (fun i hi => h i (by omega)) (by omega)
      have c := h n (by omega)
      omega
theorem sN_ex {f : Nat → Int} : ∀ {n : Nat}, 0 < sN f n → ∃ i, i < n ∧ 0 < f i
  | 0, h => by rw [sN_z] at h; omega
  | n + 1, h => by
    have a := sN_s f n
    by_cases e : 0 < f n
    · exact ⟨n, by omega, e⟩
    · obtain ⟨i, i1, i2⟩ := sN_ex (f := f) (n := n) (by omega)
      exact ⟨i, by omega, i2⟩
theorem sN_ins {f g : Nat → Int} {p : Nat} {v : Int} : ∀ {m : Nat}, p ≤ m → (∀ i, i < p → g i = f i) → g p = v → (∀ i, p ≤ i → i < m → g (i + 1) = f i) → sN g (m + 1) = sN f m + v
  | 0, hp, h1, h2, h3 => by
    have e : p = 0 := by omega
    subst e
    have a := sN_s g 0
    have b := sN_z g
    have c := sN_z f
    omega
  | m + 1, hp, h1, h2, h3 => by
    have a := sN_s g (m + 1)
    have b := sN_s f m
    by_cases e : p = m + 1
    · subst e
      have c := sN_cg (f := g) (g := f) (n := m + 1) h1
      omega
    · have c := sN_ins (f := f) (g := g) (p := p) (v := v) (m := m) (by omega) h1 h2 (fun i g1 g2 => h3 i g1 (by omega))
      have d := h3 m (by omega) (by omega)
      omega
/-- the class's way (sorted) and the reference's (counted) to the best of a string -/
theorem srt_le {rk : Nat → Int} {m : Nat} (hS : ∀ i, i + 1 < m → rk (i + 1) ≤ rk i) {i : Nat} : ∀ {j : Nat}, i ≤ j → j < m → rk j ≤ rk i
  | 0, h1, h2 => by rw [show i = 0 by omega]; omega
  | j + 1, h1, h2 => by
    by_cases e : i = j + 1
    · rw [e]; omega
    · have a := srt_le hS (i := i) (j := j) (by omega) (by omega)
      have b := hS j h2
      omega
theorem best_eq {rk cur V : Nat → Int} {str : Nat → Int32} {s : Int32} {c m : Nat} (hS : ∀ i, i + 1 < m → rk (i + 1) ≤ rk i) (hf : ∀ φ : Int → Int, sN (fun i => φ (rk i)) m = sN (fun i => if str i = s then φ (cur i) else 0) c) (hcur : ∀ i, i < c → 0 ≤ cur i) (hV : ∀ i, i < c → V i = if str i = s then cur i else -1) {R1 R2 : Int}
    (a1 : 0 ≤ R1) (a2 : ∀ i : Nat, i < m → ((i : Int) + 1) * rk i ≤ R1) (a3 : R1 = 0 ∨ ∃ i : Nat, i < m ∧ R1 = ((i : Int) + 1) * rk i)
    (b1 : 0 ≤ R2) (b2 : ∀ i : Nat, i < c → sN (fun k => if V i < 0 then 0 else if V k < V i then 0 else 1) c * V i ≤ R2) (b3 : R2 = 0 ∨ ∃ i : Nat, i < c ∧ R2 = sN (fun k => if V i < 0 then 0 else if V k < V i then 0 else 1) c * V i) : R1 = R2 := by
  have mny : ∀ i, i < c → str i = s → V i = cur i ∧ sN (fun k => if V i < 0 then 0 else if V k < V i then 0 else 1) c = sN (fun k => if cur i ≤ rk k then 1 else 0) m := by
    intro i hi hs
    have v1 := hV i hi
    rw [if_pos hs] at v1
    refine ⟨v1, ?_⟩
    have h0 := hcur i hi
    have e := hf (fun x => if cur i ≤ x then 1 else 0)
    rw [e]
    refine sN_cg (fun k hk => ?_)
    show (if V i < 0 then (0 : Int) else if V k < V i then 0 else 1) = if str k = s then (if cur i ≤ cur k then 1 else 0) else 0
    have v2 := hV k hk
    rw [v1, if_neg (by omega)]
    by_cases hk2 : str k = s
    · rw [if_pos hk2] at v2
      rw [if_pos hk2, v2]
      by_cases g : cur k < cur i
      · rw [if_pos g, if_neg (by omega)]
      · rw [if_neg g, if_pos (by omega)]
    · rw [if_neg hk2] at v2
      rw [if_neg hk2, v2, if_pos (by omega)]
  have ind01 : ∀ v : Int, ∀ i, i < m → 0 ≤ (if v ≤ rk i then (1 : Int) else 0) ∧ (if v ≤ rk i then (1 : Int) else 0) ≤ 1 := by
    intro v i _
    split <;> omega
  have le1 : R2 ≤ R1 := by
    rcases b3 with b3 | ⟨i, i1, i2⟩
    · omega
    · by_cases hs : str i = s
      · obtain ⟨v1, v2⟩ := mny i i1 hs
        rw [v2, v1] at i2
        have h0 := hcur i i1
        have n01 := sN_b1 (f := fun k => if cur i ≤ rk k then 1 else 0) (n := m) (ind01 (cur i))
        generalize hn : sN (fun k => if cur i ≤ rk k then 1 else 0) m = nn at i2 n01
        by_cases z : nn ≤ 0
        · rw [show nn = 0 by omega, Int.zero_mul] at i2; omega
        · obtain ⟨q, hq⟩ : ∃ q : Nat, (q : Int) = nn - 1 := ⟨(nn - 1).toNat, by omega⟩
          have hr : cur i ≤ rk q := by
            refine Classical.byContradiction (fun w => ?_)
            have := sN_le (f := fun k => if cur i ≤ rk k then 1 else 0) (q := q) (n := m) (ind01 (cur i)) (fun k k1 k2 => by
              have := srt_le hS k1 k2
              show (if cur i ≤ rk k then (1 : Int) else 0) = 0
              rw [if_neg (by omega)])
            omega
          have w := a2 q (by omega)
          have e2 := Int.mul_le_mul_of_nonneg_left hr (show 0 ≤ nn by omega)
          rw [show (q : Int) + 1 = nn by omega] at w
          omega
      · have v1 := hV i i1
        rw [if_neg hs] at v1
        have z : sN (fun k => if V i < 0 then (0 : Int) else if V k < V i then 0 else 1) c = 0 := by
          rw [sN_cg (f := fun k => if V i < 0 then (0 : Int) else if V k < V i then 0 else 1) (g := fun _ => 0) (fun k _ => by
            show (if V i < 0 then (0 : Int) else if V k < V i then 0 else 1) = 0
            rw [if_pos (by omega)])]
          have : ∀ n : Nat, sN (fun _ => 0) n = 0 := fun n => by
            induction n with
            | zero => rfl
            | succ n ih =>
              have a : sN (fun _ => 0) (n + 1) = sN (fun _ => 0) n + 0 := rfl
              omega
          exact this c
        rw [z, Int.zero_mul] at i2; omega
  have le2 : R1 ≤ R2 := by
    rcases a3 with a3 | ⟨i, i1, i2⟩
    · omega
    · have e := hf (fun x => if x = rk i then 1 else 0)
      have p1 := sN_pos (f := fun k => if rk k = rk i then (1 : Int) else 0) (q := i) (n := m) (fun k _ => by
        show 0 ≤ (if rk k = rk i then (1 : Int) else 0)
        split <;> omega) i1
      rw [if_pos rfl, e] at p1
      obtain ⟨k, k1, k2⟩ := sN_ex (f := fun k => if str k = s then (if cur k = rk i then (1 : Int) else 0) else 0) (n := c) (by omega)
      by_cases hs : str k = s
      · rw [if_pos hs] at k2
        by_cases hv : cur k = rk i
        · obtain ⟨v1, v2⟩ := mny k k1 hs
          have w := b2 k k1
          rw [v2, v1, hv] at w
          have h0 := hcur k k1
          have g := sN_ge (f := fun k => if rk i ≤ rk k then (1 : Int) else 0) (q := i) (n := m) (ind01 (rk i)) (fun x x1 x2 => by
            show (if rk i ≤ rk x then (1 : Int) else 0) = 1
            rw [if_pos (srt_le hS x1 i1)]) i1
          have e2 := Int.mul_le_mul_of_nonneg_right g (show 0 ≤ rk i by omega)
          omega
        · rw [if_neg hv] at k2; omega
      · rw [if_neg hs] at k2; omega
  omega
