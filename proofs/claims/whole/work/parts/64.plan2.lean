/-! the reference's choice -/
theorem bit_eq {S i : Nat} (hS : S < 1024) (hi : i < 10) : ((nI S >>> (nI i &&& 31)) &&& 1) = 1 ↔ S.testBit i = true := by
  have e1 := shr_toInt (nI S) (j := i) (by omega)
  rw [nI_toInt (n := S) (by omega)] at e1
  have hp : (1 : Nat) ≤ 2 ^ i := Nat.one_le_two_pow
  have hq : S / 2 ^ i < 1024 := Nat.lt_of_le_of_lt (Nat.div_le_self _ _) hS
  have e2 : nI S >>> (nI i &&& 31) = nI (S / 2 ^ i) := by
    rw [i_eq, e1, nI_toInt (n := S / 2 ^ i) (by omega)]
    rw [Int.natCast_ediv, Int.natCast_pow]; rfl
  have e3 : ∀ q : Nat, q < 1024 → ((nI q &&& 1 = 1) ↔ q % 2 = 1) := by decide +kernel
  rw [e2, e3 _ hq, Nat.testBit_eq_decide_div_mod_eq, decide_eq_true_eq]
def mgn (σ : St) (a1 a2 : Int32) (i : Nat) : Int64 := ((Int32.toInt64 (gA σ 24 i)) * (Int32.toInt64 (gA σ 23 i))) * (Int32.toInt64 a1) - (Int32.toInt64 a2)
def FLr (S rn : Nat) (fi la : Int32) : Prop := (fi.toInt = -1 ∧ la.toInt = -1 ∧ ∀ i, i < rn → S.testBit i = false) ∨ ∃ f l : Nat, FL rn S f l ∧ fi.toInt = f ∧ la.toInt = l
theorem bwI {g : Nat → Int} {c : Nat} (h10 : c ≤ 10) (hg : ∀ i, i < c → -1000000 ≤ g i ∧ g i ≤ 40000000) {σ : St} {a1 a2 : Int32} (hc : (c : Int) = (gI σ 20).toInt) (hgn : ∀ i, i < c → (mgn σ a1 a2 i).toInt = g i) {S : Nat} (hS : S < 1024) : ∀ (n : Nat) (wo : Int64) (fi la r : Int32) (rn : Nat), (rn : Int) = r.toInt → rn ≤ c → c < rn + n → wo.toInt = sg g rn S → FLr S rn fi la →
    (f10_bestWorth_I σ a1 a2 (nI S) n wo fi la r).1.toInt = sg g c S ∧ FLr S c (f10_bestWorth_I σ a1 a2 (nI S) n wo fi la r).2.1 (f10_bestWorth_I σ a1 a2 (nI S) n wo fi la r).2.2
  | 0, wo, fi, la, r, rn, hr, h1, hf, hw, F => by omega
  | n + 1, wo, fi, la, r, rn, hr, h1, hf, hw, F => by
    unfold f10_bestWorth_I
    by_cases e : gI σ 20 ≤ r
    · rw [if_pos e]
      rw [i_le] at e
      have e2 : rn = c := by omega
      rw [e2] at hw F
      exact ⟨hw, F⟩
    rw [if_neg e]
    rw [i_le] at e
    have e1 : (r + 1).toInt = r.toInt + 1 := i_add1 (b := 10) (by omega) (by omega)
    have hnI : r = nI rn := by rw [i_eq, nI_toInt (by omega)]; omega
    have be := bit_eq (S := S) (i := rn) hS (by omega)
    have gl := hgn rn (by omega)
    unfold mgn at gl
    have bl := hg rn (by omega)
    have sb : -1000000 * (rn : Int) ≤ sg g rn S ∧ sg g rn S ≤ 40000000 * (rn : Int) := by
      unfold sg
      refine sN_bd4 (fun i hi => ?_)
      have := hg i (by omega)
      show -1000000 ≤ (if S.testBit i = true then g i else 0) ∧ (if S.testBit i = true then g i else 0) ≤ 40000000
      split <;> omega
    have sS : sg g (rn + 1) S = sg g rn S + (if S.testBit rn = true then g rn else 0) := rfl
    rw [N_of hr, hnI]
    by_cases b : S.testBit rn = true
    · rw [if_pos (be.mpr b)]
      rw [if_pos b] at sS
      rw [← hnI]
      refine bwI h10 hg hc hgn hS n _ _ r (r + 1) (rn + 1) (by omega) (by omega) (by omega) (by rw [j_add (by omega) (by omega), hw, gl, sS]) ?_
      right
      unfold f10_bestWorth_fs
      rcases F with ⟨F1, F2, F3⟩ | ⟨f, l, ⟨F1, F2, F3, F4, F5⟩, F6, F7⟩
      · refine ⟨rn, rn, ⟨Nat.le_refl _, by omega, b, b, fun i hi hb => ?_⟩, ?_, by omega⟩
        · by_cases ei : i = rn
          · omega
          · rw [F3 i (by omega)] at hb; exact absurd hb (by decide)
        · rw [if_neg (by rw [i_le, lit_0]; omega)]; omega
      · refine ⟨f, rn, ⟨by omega, by omega, F3, b, fun i hi hb => ?_⟩, ?_, by omega⟩
        · by_cases ei : i = rn
          · omega
          · have := F5 i (by omega) hb
            omega
        · rw [if_pos (by rw [i_le, lit_0]; omega)]; exact F6
    · rw [if_neg (fun q => b (be.mp q))]
      rw [if_neg b] at sS
      rw [← hnI]
      refine bwI h10 hg hc hgn hS n _ _ la (r + 1) (rn + 1) (by omega) (by omega) (by omega) (by rw [hw, sS]; omega) ?_
      rcases F with ⟨F1, F2, F3⟩ | ⟨f, l, ⟨F1, F2, F3, F4, F5⟩, F6, F7⟩
      · refine Or.inl ⟨F1, F2, fun i hi => ?_⟩
        by_cases ei : i = rn
        · rw [ei]; exact Bool.eq_false_iff.mpr b
        · exact F3 i (by omega)
      · refine Or.inr ⟨f, l, ⟨F1, by omega, F3, F4, fun i hi hb => ?_⟩, F6, F7⟩
        by_cases ei : i = rn
        · rw [ei] at hb; exact absurd hb b
        · exact F5 i (by omega) hb
theorem bw_val {g : Nat → Int} {c : Nat} (h10 : c ≤ 10) (hg : ∀ i, i < c → -1000000 ≤ g i ∧ g i ≤ 40000000) {σ : St} {a1 a2 : Int32} (hc : (c : Int) = (gI σ 20).toInt) (hgn : ∀ i, i < c → (mgn σ a1 a2 i).toInt = g i) {S : Nat} (hS : S < 2 ^ c) (h1 : 1 ≤ S) :
    VAL g c S (((f10_bestWorth_I σ a1 a2 (nI S) 11 (0 : Int64) (-1 : Int32) (-1 : Int32) (0 : Int32))).1 - ((10 : Int64) * (Int32.toInt64 ((((f10_bestWorth_I σ a1 a2 (nI S) 11 (0 : Int64) (-1 : Int32) (-1 : Int32) (0 : Int32))).2.2 - ((f10_bestWorth_I σ a1 a2 (nI S) 11 (0 : Int64) (-1 : Int32) (-1 : Int32) (0 : Int32))).2.1) + (1 : Int32))))).toInt := by
  have hp := p10 h10
  obtain ⟨y1, y2⟩ := bwI h10 hg hc hgn (S := S) (by omega) 11 0 (-1) (-1) 0 0 z6 (by omega) (by omega) (by rw [jl_0]; rfl) (Or.inl ⟨lit_m1, lit_m1, fun i hi => by omega⟩)
  generalize f10_bestWorth_I σ a1 a2 (nI S) 11 0 (-1) (-1) 0 = R at y1 y2 ⊢
  obtain ⟨wo, fi, la⟩ := R
  dsimp only at y1 y2 ⊢
  rcases y2 with ⟨-, -, F⟩ | ⟨f, l, F, F6, F7⟩
  · exfalso
    obtain ⟨i, hi⟩ := Nat.exists_testBit_of_ne_zero (show S ≠ 0 by omega)
    by_cases ei : i < c
    · rw [F i ei] at hi; exact absurd hi (by decide)
    · rw [Nat.testBit_lt_two_pow (Nat.lt_of_lt_of_le hS (Nat.pow_le_pow_right (by decide) (by omega)))] at hi
      exact absurd hi (by decide)
  · refine Or.inr ⟨f, l, F, ?_⟩
    have F1 := F.1
    have F2 := F.2.1
    have sb : -1000000 * (c : Int) ≤ sg g c S ∧ sg g c S ≤ 40000000 * (c : Int) := by
      unfold sg
      refine sN_bd4 (fun i hi => ?_)
      have := hg i (by omega)
      show -1000000 ≤ (if S.testBit i = true then g i else 0) ∧ (if S.testBit i = true then g i else 0) ≤ 40000000
      split <;> omega
    have d1 : (la - fi).toInt = (l : Int) - f := by rw [i_sub (by omega) (by omega)]; omega
    have d2 : (la - fi + 1).toInt = (l : Int) - f + 1 := by rw [i_add1 (b := 100) (by omega) (by omega), d1]
    have d3 : (10 * Int32.toInt64 (la - fi + 1)).toInt = 10 * ((l : Int) - f + 1) := by rw [j_mul (by rw [jl_10, j_of, d2]; omega) (by rw [jl_10, j_of, d2]; omega), jl_10, j_of, d2]
    rw [j_sub (by rw [y1, d3]; omega) (by rw [y1, d3]; omega), y1, d3]
theorem mgn_ag {σ τ : St} (g : Ag i30 pT pT σ τ) (a b : Int32) (i : Nat) : mgn τ a b i = mgn σ a b i := by
  unfold mgn; rw [g.2.1 24 rfl, g.2.1 23 rfl]
theorem bwL {g : Nat → Int} {c : Nat} (h10 : c ≤ 10) (hg : ∀ i, i < c → -1000000 ≤ g i ∧ g i ≤ 40000000) {a1 a2 : Int32} : ∀ (n : Nat) (σ : St) (be : Int64) (set : Int32) (S b : Nat), (c : Int) = (gI σ 20).toInt → (∀ i, i < c → (mgn σ a1 a2 i).toInt = g i) → (S : Int) = set.toInt → 1 ≤ S → S ≤ 2 ^ c → 2 ^ c < S + n → gI σ 30 = nI b → b < S → VAL g c b be.toInt → (∀ T w, T < S → VAL g c T w → w < be.toInt ∨ (w = be.toInt ∧ b ≤ T)) →
    (∃ b', gI (f10_bestWorth_L a1 a2 n σ be set).2 30 = nI b' ∧ OPT g c b' (f10_bestWorth_L a1 a2 n σ be set).1.toInt) ∧ Ag i30 pT pT σ (f10_bestWorth_L a1 a2 n σ be set).2
  | 0, σ, be, set, S, b, hc, hgn, hs, h1, h2, hf, hb, hbS, hv, hd => by omega
  | n + 1, σ, be, set, S, b, hc, hgn, hs, h1, h2, hf, hb, hbS, hv, hd => by
    have hp := p10 h10
    have hset : set = nI S := by rw [i_eq, nI_toInt (by omega)]; omega
    have hcn : gI σ 20 = nI c := by rw [i_eq, nI_toInt (by omega)]; omega
    have hsh : ((1 : Int32) <<< (gI σ 20 &&& 31)).toInt = ((2 ^ c : Nat) : Int) := by rw [hcn, shl_val (by omega), Int.natCast_pow]; rfl
    unfold f10_bestWorth_L
    by_cases e : (1 : Int32) <<< (gI σ 20 &&& 31) ≤ set
    · rw [if_pos e]
      rw [i_le, hsh] at e
      have e2 : S = 2 ^ c := by omega
      rw [e2] at hbS hd
      exact ⟨⟨b, hb, hv, hbS, hd⟩, Ag.rf _⟩
    rw [if_neg e]
    rw [i_le, hsh] at e
    have hS2 : S < 2 ^ c := by omega
    have e1 : (set + 1).toInt = set.toInt + 1 := i_add1 (b := 2000) (by omega) (by omega)
    have V := bw_val h10 hg hc hgn hS2 h1
    rw [← hset] at V
    generalize (f10_bestWorth_I σ a1 a2 set 11 (0 : Int64) (-1 : Int32) (-1 : Int32) (0 : Int32)).1 - ((10 : Int64) * (Int32.toInt64 (((f10_bestWorth_I σ a1 a2 set 11 (0 : Int64) (-1 : Int32) (-1 : Int32) (0 : Int32)).2.2 - (f10_bestWorth_I σ a1 a2 set 11 (0 : Int64) (-1 : Int32) (-1 : Int32) (0 : Int32)).2.1) + (1 : Int32)))) = x at V ⊢
    by_cases c1 : x ≤ be
    · rw [if_pos c1]
      rw [l_le] at c1
      refine bwL h10 hg n σ be (set + 1) (S + 1) b hc hgn (by omega) (by omega) (by omega) (by omega) hb (by omega) hv (fun T w hT hw => ?_)
      by_cases eT : T = S
      · subst eT
        have := hw.u V
        omega
      · exact hd T w (by omega) hw
    · rw [if_neg c1]
      rw [l_le] at c1
      have A : Ag i30 pT pT σ (uI σ 30 set) := (Ag.rf σ).uI rfl
      obtain ⟨y1, y2⟩ := bwL h10 hg (a1 := a1) (a2 := a2) n (uI σ 30 set) x (set + 1) (S + 1) S hc hgn (by omega) (by omega) (by omega) (by omega) hset (by omega) V (fun T w hT hw => by
        by_cases eT : T = S
        · subst eT
          exact Or.inr ⟨hw.u V, Nat.le_refl _⟩
        · have := hd T w (by omega) hw
          omega)
      exact ⟨y1, A.tr y2⟩
theorem bw_opt {g : Nat → Int} {c : Nat} (h10 : c ≤ 10) (hg : ∀ i, i < c → -1000000 ≤ g i ∧ g i ≤ 40000000) {a1 a2 : Int32} {σ : St} (hc : (c : Int) = (gI σ 20).toInt) (hgn : ∀ i, i < c → (mgn σ a1 a2 i).toInt = g i) : (∃ b, gI (f10_bestWorth σ a1 a2).2 30 = nI b ∧ OPT g c b (f10_bestWorth σ a1 a2).1.toInt) ∧ Ag i30 pT pT σ (f10_bestWorth σ a1 a2).2 := by
  unfold f10_bestWorth
  have hp := p10 h10
  have hq := Nat.two_pow_pos c
  obtain ⟨y1, y2⟩ := bwL h10 hg (a1 := a1) (a2 := a2) 1024 (uI σ 30 0) 0 1 1 0 hc hgn (by rw [lit_1]; rfl) (by omega) (by omega) (by omega) rfl (by omega) (Or.inl ⟨rfl, jl_0⟩) (fun T w hT hw => by
    have e : T = 0 := by omega
    subst e
    rcases hw with ⟨-, hw⟩ | ⟨f, l, F, -⟩
    · exact Or.inr ⟨by rw [hw, jl_0], Nat.le_refl _⟩
    · exact absurd rfl F.nz)
  exact ⟨y1, ((Ag.rf σ).uI rfl).tr y2⟩
theorem i11_s : ∀ k, sI k = true → i11 k = true := fun k hk => by
  unfold sI at hk; unfold i11
  simp only [Bool.and_eq_true] at hk
  exact hk.1.1.2
theorem i30_s : ∀ k, sI k = true → i30 k = true := fun k hk => by
  unfold sI at hk; unfold i30
  simp only [Bool.and_eq_true] at hk
  exact hk.2
theorem gain_rg {d w a p : Int32} (hd : 0 ≤ d.toInt ∧ d.toInt ≤ 1000) (hw : 10 ≤ w.toInt ∧ w.toInt ≤ 400) (ha : 1 ≤ a.toInt ∧ a.toInt ≤ 100) (hp : 0 ≤ p.toInt ∧ p.toInt ≤ 1000000) : -1000000 ≤ ((Int32.toInt64 d) * (Int32.toInt64 w) * (Int32.toInt64 a) - Int32.toInt64 p).toInt ∧ ((Int32.toInt64 d) * (Int32.toInt64 w) * (Int32.toInt64 a) - Int32.toInt64 p).toInt ≤ 40000000 := by
  have q1 := mul_bd (a := d.toInt) (b := w.toInt) (A := 1000) (B := 400) (by omega) (by omega) (by omega) (by omega)
  have q2 := Int.mul_nonneg hd.1 (show 0 ≤ w.toInt by omega)
  have m1 : (Int32.toInt64 d * Int32.toInt64 w).toInt = d.toInt * w.toInt := by rw [j_mul (by rw [j_of, j_of]; omega) (by rw [j_of, j_of]; omega), j_of, j_of]
  generalize d.toInt * w.toInt = x at q1 q2 m1
  have q3 := mul_bd (a := x) (b := a.toInt) (A := 400000) (B := 100) (by omega) (by omega) (by omega) (by omega)
  have q4 := Int.mul_nonneg q2 (show 0 ≤ a.toInt by omega)
  have m2 : (Int32.toInt64 d * Int32.toInt64 w * Int32.toInt64 a).toInt = x * a.toInt := by rw [j_mul (by rw [m1, j_of]; omega) (by rw [m1, j_of]; omega), m1, j_of]
  generalize x * a.toInt = y at q3 q4 m2
  rw [j_sub (by rw [m2, j_of]; omega) (by rw [m2, j_of]; omega), m2, j_of]
  omega
theorem plan_two {k : Nat} {σ : St} {a1 a2 : Int32} (h : Rel k σ) (ha : 1 ≤ a1.toInt ∧ a1.toInt ≤ 100) (hp : 0 ≤ a2.toInt ∧ a2.toInt ≤ 1000000) : Safe (f7_choose σ a1 a2) ∧ gI (f7_choose σ a1 a2) 11 = gI (f10_bestWorth (f7_choose σ a1 a2) a1 a2).2 30 ∧ gJ (f7_choose σ a1 a2) 0 = (f10_bestWorth (f7_choose σ a1 a2) a1 a2).1 ∧ Rel k (f10_bestWorth (f7_choose σ a1 a2) a1 a2).2 := by
  have hcnt := h.1.cnt
  obtain ⟨c, hc⟩ : ∃ c : Nat, (c : Int) = (gI σ 2).toInt := ⟨(gI σ 2).toInt.toNat, by omega⟩
  have hg : ∀ i, i < c → -1000000 ≤ (f7_gain σ i a1 a2).toInt ∧ (f7_gain σ i a1 a2).toInt ≤ 40000000 := fun i hi => by
    obtain ⟨-, q1, q2, q3, q4, q5, q6⟩ := h.2.1.2 i (by omega)
    exact gain_rg q5 q4 ha hp
  have hs1 : Safe (f7_choose σ a1 a2) := sX7_choose h.1
  obtain ⟨⟨b, b1, b2⟩, A1⟩ := choose_opt (g := fun i => (f7_gain σ i a1 a2).toInt) (c := c) (a2 := a1) (a3 := a2) (by omega) hg hc (fun i hi => rfl)
  generalize f7_choose σ a1 a2 = σ1 at hs1 b1 b2 A1 ⊢
  obtain ⟨⟨d, d1, d2⟩, A2⟩ := bw_opt (g := fun i => (f7_gain σ i a1 a2).toInt) (c := c) (a1 := a1) (a2 := a2) (σ := σ1) (by omega) hg (by rw [A1.1 20 rfl]; rw [show gI σ 20 = gI σ 2 from (h.2.1.1 : gI σ 2 = gI σ 20).symm]; exact hc) (fun i hi => by
    obtain ⟨⟨r0, r1, r2, r3, r4, r5, r6⟩, -⟩ := h.2.1.2 i (by omega)
    unfold mgn f7_gain
    rw [A1.2.1 24 rfl, A1.2.1 23 rfl, r3, r4])
  have hs2 : Safe (f10_bestWorth σ1 a1 a2).2 := sX10_bestWorth hs1
  obtain ⟨e1, e2⟩ := b2.u d2
  refine ⟨hs1, by rw [b1, d1, e1], by rw [j_eq]; exact e2, (h.ag (A1.mono i11_s (fun _ _ => rfl) (fun _ _ => rfl)) hs1).ag (A2.mono i30_s (fun _ _ => rfl) (fun _ _ => rfl)) hs2⟩
theorem wp_t {a b : Int32} (h : ¬ f9_isWashPlan a b = 0) : (1 ≤ a.toInt ∧ a.toInt ≤ 100) ∧ (0 ≤ b.toInt ∧ b.toInt ≤ 1000000) := by
  unfold f9_isWashPlan at h
  by_cases c1 : f9_isWithin a 1 100 = 0
  · rw [if_pos c1] at h; exact absurd rfl h
  rw [if_neg c1] at h
  by_cases c2 : f9_isWithin b 0 1000000 = 0
  · rw [if_pos c2] at h; exact absurd rfl h
  have w1 := wi_t c1
  have w2 := wi_t c2
  rw [lit_1, lit_100] at w1
  rw [lit_0, lit_1000000] at w2
  exact ⟨w1, w2⟩
theorem pu_plan (k : Nat) (σ : St) (a1 a2 : Int32) (h : Rel k σ) : Safe (f9_plan σ a1 a2).2 ∧ (f9_plan σ a1 a2).1 = (f10_plan (f9_plan σ a1 a2).2 a1 a2).1 ∧ Rel (k + 1) (f10_plan (f9_plan σ a1 a2).2 a1 a2).2 := by
  by_cases c1 : f9_isWashPlan a1 a2 = 0
  · exact fin h f1 (fun τ => f10_plan τ a1 a2) (by unfold f9_plan; exact if_pos c1) (by show f10_plan _ _ _ = _; unfold f10_plan; exact if_pos (show f10_isPlan a1 a2 = 0 from c1))
  obtain ⟨w1, w2⟩ := wp_t c1
  obtain ⟨p1, p2, p3, p4⟩ := plan_two h.up w1 w2
  exact okk (fun τ => f10_plan τ a1 a2) (by unfold f9_plan; exact if_neg c1) (by show f10_plan _ _ _ = _; unfold f10_plan; exact if_neg (show ¬ f10_isPlan a1 a2 = 0 from c1)) p1 p2 p4
theorem pu_worth (k : Nat) (σ : St) (a1 a2 : Int32) (h : Rel k σ) : Safe (f9_worth σ a1 a2).2 ∧ (f9_worth σ a1 a2).1 = (f10_worth (f9_worth σ a1 a2).2 a1 a2).1 ∧ Rel (k + 1) (f10_worth (f9_worth σ a1 a2).2 a1 a2).2 := by
  by_cases c1 : f9_isWashPlan a1 a2 = 0
  · exact finL h f1 (fun τ => f10_worth τ a1 a2) (by unfold f9_worth; exact if_pos c1) (by show f10_worth _ _ _ = _; unfold f10_worth; exact if_pos (show f10_isPlan a1 a2 = 0 from c1))
  obtain ⟨w1, w2⟩ := wp_t c1
  obtain ⟨p1, p2, p3, p4⟩ := plan_two h.up w1 w2
  exact okk (fun τ => f10_worth τ a1 a2) (by unfold f9_worth; exact if_neg c1) (by show f10_worth _ _ _ = _; unfold f10_worth; exact if_neg (show ¬ f10_isPlan a1 a2 = 0 from c1)) p1 p3 p4
