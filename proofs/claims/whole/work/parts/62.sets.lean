/-! the best set of rows -/
def FL (c S f l : Nat) : Prop := f ≤ l ∧ l < c ∧ S.testBit f = true ∧ S.testBit l = true ∧ ∀ i, i < c → S.testBit i = true → f ≤ i ∧ i ≤ l
def sg (g : Nat → Int) (c S : Nat) : Int := sN (fun i => if S.testBit i = true then g i else 0) c
def VAL (g : Nat → Int) (c S : Nat) (v : Int) : Prop := (S = 0 ∧ v = 0) ∨ ∃ f l : Nat, FL c S f l ∧ v = sg g c S - 10 * ((l : Int) - f + 1)
theorem FL.u {c S f l f' l' : Nat} (h : FL c S f l) (h' : FL c S f' l') : f = f' ∧ l = l' := by
  obtain ⟨h1, h2, h3, h4, h5⟩ := h
  obtain ⟨q1, q2, q3, q4, q5⟩ := h'
  have a := h5 f' (by omega) q3
  have b := q5 f (by omega) h3
  have d := h5 l' q2 q4
  have e := q5 l h2 h4
  omega
theorem FL.nz {c S f l : Nat} (h : FL c S f l) : S ≠ 0 := by
  rintro rfl
  have := h.2.2.1
  rw [Nat.zero_testBit] at this
  exact absurd this (by decide)
theorem VAL.u {g : Nat → Int} {c S : Nat} {v w : Int} (h : VAL g c S v) (h' : VAL g c S w) : v = w := by
  rcases h with ⟨a1, a2⟩ | ⟨f, l, a1, a2⟩
  · rcases h' with ⟨b1, b2⟩ | ⟨f', l', b1, b2⟩
    · rw [a2, b2]
    · exact absurd a1 b1.nz
  · rcases h' with ⟨b1, b2⟩ | ⟨f', l', b1, b2⟩
    · exact absurd b1 a1.nz
    · obtain ⟨e1, e2⟩ := a1.u b1
      rw [a2, b2, e1, e2]
def OPT (g : Nat → Int) (c b : Nat) (v : Int) : Prop := VAL g c b v ∧ b < 2 ^ c ∧ ∀ S w, S < 2 ^ c → VAL g c S w → w < v ∨ (w = v ∧ b ≤ S)
theorem OPT.u {g : Nat → Int} {c b b' : Nat} {v v' : Int} (h : OPT g c b v) (h' : OPT g c b' v') : b = b' ∧ v = v' := by
  have a := h.2.2 b' v' h'.2.1 h'.1
  have d := h'.2.2 b v h.2.1 h.1
  omega
def CD (g : Nat → Int) (f l S : Nat) : Prop := f ≤ l ∧ ∀ i, (S.testBit i = true ↔ (i = f ∨ i = l ∨ (f < i ∧ i < l ∧ 0 < g i)))
theorem CD.fl {g : Nat → Int} {c f l S : Nat} (h : CD g f l S) (hl : l < c) : FL c S f l := by
  obtain ⟨h1, h2⟩ := h
  refine ⟨h1, hl, (h2 f).mpr (Or.inl rfl), (h2 l).mpr (Or.inr (Or.inl rfl)), fun i _ hi => ?_⟩
  have := (h2 i).mp hi
  omega
theorem CD.lt {g : Nat → Int} {c f l S : Nat} (h : CD g f l S) (hl : l < c) : S < 2 ^ c := by
  refine Nat.lt_pow_two_of_testBit S (fun i hi => ?_)
  cases e : S.testBit i
  · rfl
  · have := (h.2 i).mp e
    have := h.1
    omega
theorem CD.uq {g : Nat → Int} {f l S T : Nat} (h : CD g f l S) (h' : CD g f l T) : S = T :=
  Nat.eq_of_testBit_eq (fun i => Bool.eq_iff_iff.mpr ((h.2 i).trans (h'.2 i).symm))
theorem sN_tail {h : Nat → Int} {n : Nat} : ∀ {m : Nat}, n ≤ m → (∀ i, n ≤ i → i < m → h i = 0) → sN h m = sN h n
  | 0, h1, _ => by rw [show n = 0 by omega]
  | m + 1, h1, h2 => by
    by_cases e : n = m + 1
    · rw [e]
    · have a := sN_s h m
      have b := sN_tail (h := h) (n := n) (m := m) (by omega) (fun i g1 g2 => h2 i g1 (by omega))
      have d := h2 m (by omega) (by omega)
      omega
theorem sN_at (f : Nat) (x : Int) : ∀ n : Nat, sN (fun i => if i = f then x else 0) n = if f < n then x else 0
  | 0 => by rw [if_neg (by omega)]; rfl
  | n + 1 => by
    have a : sN (fun i => if i = f then x else 0) (n + 1) = sN (fun i => if i = f then x else 0) n + (if n = f then x else 0) := rfl
    rw [a, sN_at f x n]
    by_cases e : n = f
    · rw [if_pos e, if_neg (by omega), if_pos (by omega)]; omega
    · rw [if_neg e]
      by_cases q : f < n
      · rw [if_pos q, if_pos (by omega)]; omega
      · rw [if_neg q, if_neg (by omega)]; omega
def inS (g : Nat → Int) (f : Nat) (n : Nat) : Int := sN (fun i => if f < i ∧ 0 < g i then g i else 0) n
theorem CD.sum1 {g : Nat → Int} {c f S : Nat} (h : CD g f f S) (hf : f < c) : sg g c S = g f := by
  unfold sg
  rw [sN_cg (g := fun i => if i = f then g f else 0) (fun i hi => ?_), sN_at, if_pos hf]
  have q := h.2 i
  by_cases e : i = f
  · show (if S.testBit i = true then g i else 0) = if i = f then g f else 0
    rw [if_pos (q.mpr (Or.inl e)), if_pos e, e]
  · show (if S.testBit i = true then g i else 0) = if i = f then g f else 0
    rw [if_neg (fun w => by have := q.mp w; omega), if_neg e]
theorem CD.sum2 {g : Nat → Int} {c f l S : Nat} (h : CD g f l S) (hf : f < l) (hl : l < c) : sg g c S = g f + inS g f l + g l := by
  unfold sg inS
  have e1 : sN (fun i => if S.testBit i = true then g i else 0) c = sN (fun i => if S.testBit i = true then g i else 0) (l + 1) := by
    refine sN_tail (by omega) (fun i i1 i2 => ?_)
    show (if S.testBit i = true then g i else 0) = 0
    rw [if_neg (fun w => by have := (h.2 i).mp w; omega)]
  have e2 : sN (fun i => if S.testBit i = true then g i else 0) (l + 1) = sN (fun i => if S.testBit i = true then g i else 0) l + (if S.testBit l = true then g l else 0) := rfl
  have e3 : sN (fun i => if S.testBit i = true then g i else 0) l = sN (fun i => (if i = f then g f else 0) + (if f < i ∧ 0 < g i then g i else 0)) l := by
    refine sN_cg (fun i hi => ?_)
    show (if S.testBit i = true then g i else 0) = (if i = f then g f else 0) + (if f < i ∧ 0 < g i then g i else 0)
    have q := h.2 i
    by_cases e : i = f
    · rw [if_pos (q.mpr (Or.inl e)), if_pos e, if_neg (by omega), e]; omega
    · rw [if_neg e]
      by_cases e4 : f < i ∧ 0 < g i
      · rw [if_pos e4, if_pos (q.mpr (Or.inr (Or.inr ⟨e4.1, hi, e4.2⟩)))]; omega
      · rw [if_neg e4, if_neg (fun w => by have := q.mp w; omega)]; omega
  rw [e1, e2, e3, sN_add, sN_at, if_pos hf, if_pos ((h.2 l).mpr (Or.inr (Or.inl rfl)))]
def isN (g : Nat → Int) (f : Nat) : Nat → Nat
  | 0 => 0
  | n + 1 => if f < n ∧ 0 < g n then isN g f n ||| 2 ^ n else isN g f n
theorem isN_bit {g : Nat → Int} {f : Nat} (i : Nat) : ∀ n : Nat, (isN g f n).testBit i = true ↔ (i < n ∧ f < i ∧ 0 < g i)
  | 0 => by
    rw [isN, Nat.zero_testBit]
    exact ⟨fun q => absurd q (by decide), fun q => by omega⟩
  | n + 1 => by
    have ih := isN_bit (g := g) (f := f) i n
    rw [isN]
    by_cases e : f < n ∧ 0 < g n
    · rw [if_pos e, Nat.testBit_or, Nat.testBit_two_pow, Bool.or_eq_true, ih, decide_eq_true_eq]
      constructor
      · rintro (⟨a, b, d⟩ | a)
        · exact ⟨by omega, b, d⟩
        · subst a; exact ⟨by omega, e.1, e.2⟩
      · rintro ⟨a, b, d⟩
        by_cases q : n = i
        · exact Or.inr q
        · exact Or.inl ⟨by omega, b, d⟩
    · rw [if_neg e, ih]
      constructor
      · rintro ⟨a, b, d⟩; exact ⟨by omega, b, d⟩
      · rintro ⟨a, b, d⟩
        refine ⟨?_, b, d⟩
        by_cases q : i = n
        · subst q; exact absurd ⟨b, d⟩ e
        · omega
def cdS (g : Nat → Int) (f l : Nat) : Nat := (2 ^ f ||| isN g f l) ||| 2 ^ l
theorem cdS_cd {g : Nat → Int} {f l : Nat} (h : f ≤ l) : CD g f l (cdS g f l) := by
  refine ⟨h, fun i => ?_⟩
  unfold cdS
  rw [Nat.testBit_or, Nat.testBit_or, Nat.testBit_two_pow, Nat.testBit_two_pow, Bool.or_eq_true, Bool.or_eq_true, isN_bit, decide_eq_true_eq, decide_eq_true_eq]
  constructor
  · rintro ((a | ⟨a, b, d⟩) | a)
    · exact Or.inl a.symm
    · exact Or.inr (Or.inr ⟨b, a, d⟩)
    · exact Or.inr (Or.inl a.symm)
  · rintro (a | a | ⟨a, b, d⟩)
    · exact Or.inl (Or.inl a.symm)
    · exact Or.inr a.symm
    · exact Or.inl (Or.inr ⟨b, a, d⟩)
theorem two_cd {g : Nat → Int} {f : Nat} : CD g f f (2 ^ f) := by
  refine ⟨Nat.le_refl _, fun i => ?_⟩
  rw [Nat.testBit_two_pow, decide_eq_true_eq]
  exact ⟨fun a => Or.inl a.symm, fun a => by omega⟩
theorem sN_mo {f g : Nat → Int} : ∀ {n : Nat}, (∀ i, i < n → f i ≤ g i) → sN f n ≤ sN g n
  | 0, _ => Int.le_refl _
  | n + 1, h => by
    have a := sN_s f n
    have b := sN_s g n
    have d := sN_mo (f := f) (g := g) (n := n) (fun i hi => h i (by omega))
    have e := h n (by omega)
    omega
theorem sN_eqp {f g : Nat → Int} : ∀ {n : Nat}, (∀ i, i < n → f i ≤ g i) → sN f n = sN g n → ∀ i, i < n → f i = g i
  | 0, _, _, i, hi => by omega
  | n + 1, h, q, i, hi => by
    have a := sN_s f n
    have b := sN_s g n
    have d := sN_mo (f := f) (g := g) (n := n) (fun i hi => h i (by omega))
    have e := h n (by omega)
    by_cases w : i = n
    · subst w; omega
    · exact sN_eqp (f := f) (g := g) (n := n) (fun i hi => h i (by omega)) (by omega) i (by omega)
theorem le_bits {S T : Nat} (h : ∀ i, T.testBit i = true → S.testBit i = true) : T ≤ S := by
  have e : T &&& S = T := Nat.eq_of_testBit_eq (fun i => by
    rw [Nat.testBit_and]
    cases q : T.testBit i
    · rfl
    · rw [h i q]; rfl)
  rw [← e]
  exact Nat.and_le_right
/-- no set is better than the best of those that the class looks at -/
theorem dom {g : Nat → Int} {c S : Nat} {v : Int} (h : VAL g c S v) : S = 0 ∨ ∃ f l T w, CD g f l T ∧ l < c ∧ VAL g c T w ∧ (v < w ∨ (v = w ∧ T ≤ S)) := by
  rcases h with ⟨h0, -⟩ | ⟨f, l, F, hv⟩
  · exact Or.inl h0
  · right
    obtain ⟨F1, F2, F3, F4, F5⟩ := F
    have D := cdS_cd (g := g) F1
    refine ⟨f, l, cdS g f l, sg g c (cdS g f l) - 10 * ((l : Int) - f + 1), D, F2, Or.inr ⟨f, l, D.fl F2, rfl⟩, ?_⟩
    have pw : ∀ i, i < c → (if S.testBit i = true then g i else 0) ≤ (if (cdS g f l).testBit i = true then g i else 0) := by
      intro i hi
      have q := D.2 i
      by_cases e : S.testBit i = true
      · rw [if_pos e]
        have w := F5 i hi e
        by_cases e2 : (cdS g f l).testBit i = true
        · rw [if_pos e2]; omega
        · rw [if_neg e2]
          have e3 : ¬ (i = f ∨ i = l ∨ (f < i ∧ i < l ∧ 0 < g i)) := fun x => e2 (q.mpr x)
          omega
      · rw [if_neg e]
        by_cases e2 : (cdS g f l).testBit i = true
        · rw [if_pos e2]
          rcases q.mp e2 with x | x | ⟨-, -, x⟩
          · rw [x] at e; exact absurd F3 e
          · rw [x] at e; exact absurd F4 e
          · omega
        · rw [if_neg e2]; omega
    have mo := sN_mo (f := fun i => if S.testBit i = true then g i else 0) (g := fun i => if (cdS g f l).testBit i = true then g i else 0) (n := c) pw
    have mo2 : sg g c S ≤ sg g c (cdS g f l) := mo
    by_cases eq : sg g c S = sg g c (cdS g f l)
    · right
      refine ⟨by rw [hv, eq], le_bits (fun i hi => ?_)⟩
      rcases (D.2 i).mp hi with x | x | ⟨x1, x2, x3⟩
      · rw [x]; exact F3
      · rw [x]; exact F4
      · have p := sN_eqp (f := fun i => if S.testBit i = true then g i else 0) (g := fun i => if (cdS g f l).testBit i = true then g i else 0) (n := c) pw eq i (by omega)
        rw [if_pos hi] at p
        refine Classical.byContradiction (fun w => ?_)
        rw [if_neg w] at p
        omega
    · left; omega
