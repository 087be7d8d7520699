/-- strings into the book -/
def SS (str : Nat → Int32) (cur : Nat → Int) (c q : Nat) : Int := sN (fun i => if str i = nI q then cur i else 0) c
def b1012 (k : Nat) : Bool := k != 10 && k != 12
theorem b1012_12 : ∀ k, b1012 k = true → b12 k = true := fun k hk => by
  unfold b1012 at hk; unfold b12
  simp only [Bool.and_eq_true] at hk
  exact hk.2
theorem toI64 (x : Int32) : Int32.toInt64 x = Int64.ofInt x.toInt := rfl
theorem ceil_two {b ce : Int32} {g : Int64} (hb : 0 ≤ b.toInt ∧ b.toInt ≤ 20000000) (hg : g = Int32.toInt64 b) (hc : 0 ≤ ce.toInt) : Int32.toInt64 (b - (if ce < b then ce else b)) = (if g ≤ Int32.toInt64 ce then 0 else g - Int32.toInt64 ce) ∧ Int32.toInt64 (if ce < b then ce else b) = g - (if g ≤ Int32.toInt64 ce then 0 else g - Int32.toInt64 ce) := by
  subst hg
  by_cases c : ce < b
  · rw [if_pos c]
    rw [i_lt] at c
    rw [if_neg (by rw [l_le, j_of, j_of]; omega)]
    have e1 : (b - ce).toInt = b.toInt - ce.toInt := i_sub (by omega) (by omega)
    have e2 : (Int32.toInt64 b - Int32.toInt64 ce).toInt = b.toInt - ce.toInt := by rw [j_sub (by rw [j_of, j_of]; omega) (by rw [j_of, j_of]; omega), j_of, j_of]
    refine ⟨?_, ?_⟩
    · rw [j_eq, j_of, e1, e2]
    · rw [j_eq, j_of, j_sub (by rw [e2, j_of]; omega) (by rw [e2, j_of]; omega), e2, j_of]; omega
  · rw [if_neg c]
    rw [i_lt] at c
    rw [if_pos (by rw [l_le, j_of, j_of]; omega), Int32.sub_self, Int64.sub_zero]
    exact ⟨rfl, rfl⟩
theorem bookQ {a : Int32} {c : Nat} {str : Nat → Int32} {cur : Nat → Int} (h10 : c ≤ 10) (hR : ∀ i, i < c → 0 ≤ cur i ∧ cur i ≤ 2000000) : ∀ (n : Nat) (σ τ : St) (j : Int32) (jn : Nat), (c : Int) = (gI σ 2).toInt → (c : Int) = (gI τ 20).toInt → (∀ i, i < c → gA σ 1 i = Int64.toInt32 (f10_currentOf τ (nI i) a)) → (∀ i, i < c → (f10_currentOf τ (nI i) a).toInt = cur i) → (∀ i, i < c → gA σ 16 i = str i ∧ gA τ 26 i = str i) → (∀ q, q < 4 → gA σ 4 q = gA τ 31 q ∧ 0 ≤ (gA σ 4 q).toInt) →
    (gB σ 2 4 = gB τ 10 4 ∧ gB σ 2 5 = gB τ 10 5 ∧ gB τ 10 3 = gB σ 2 3 + Int64.ofInt (sN (SS str cur c) 4 - sN (SS str cur c) jn)) → (jn : Int) = j.toInt → jn ≤ 4 → 4 < jn + n →
    (gB (f5_bookInto_Q n σ j) 2 3 = gB (f10_writeBook_R a n τ j) 10 3 ∧ gB (f5_bookInto_Q n σ j) 2 4 = gB (f10_writeBook_R a n τ j) 10 4 ∧ gB (f5_bookInto_Q n σ j) 2 5 = gB (f10_writeBook_R a n τ j) 10 5) ∧ Ag i4 a5 b2x σ (f5_bookInto_Q n σ j) ∧ Ag pT pT b1012 τ (f10_writeBook_R a n τ j) ∧ (∀ q, q < 3 ∨ 6 ≤ q → gB (f5_bookInto_Q n σ j) 2 q = gB σ 2 q) ∧ (∀ q, q < 3 ∨ 6 ≤ q → gB (f10_writeBook_R a n τ j) 10 q = gB τ 10 q)
  | 0, σ, τ, j, jn, hc, hc2, hW, hcu, hS, hce, hq, hj, h1, hf => by omega
  | n + 1, σ, τ, j, jn, hc, hc2, hW, hcu, hS, hce, hq, hj, h1, hf => by
    unfold f5_bookInto_Q f10_writeBook_R
    by_cases e : (4 : Int32) ≤ j
    · rw [if_pos e, if_pos e]
      rw [i_le, lit_4] at e
      have e2 : jn = 4 := by omega
      have h3 := hq.2.2
      rw [e2, Int.sub_self, show Int64.ofInt 0 = 0 from rfl, Int64.add_zero] at h3
      exact ⟨⟨h3.symm, hq.1, hq.2.1⟩, Ag.rf _, Ag.rf _, fun q _ => rfl, fun q _ => rfl⟩
    rw [if_neg e, if_neg e]
    rw [i_le, lit_4] at e
    have e1 : (j + 1).toInt = j.toInt + 1 := i_add1 (b := 10) (by omega) (by omega)
    have hnI := nI_N (r := j) (by omega) (by omega)
    rw [N_of hj] at hnI
    obtain ⟨⟨b1, b2, b3⟩, b4, ag1, ag2⟩ := gives_eq (ρ := σ) (τ := τ) (a := a) j hc hc2 h10 hW (fun i hi => by rw [hcu i hi]; exact hR i hi) (fun i hi => by rw [(hS i hi).1, (hS i hi).2])
    have hsum : (f5_sumOfRanked (f5_rank σ j)).toInt = SS str cur c jn := by
      rw [b4]
      unfold SS
      refine sN_cg (fun i hi => ?_)
      show (if gA τ 26 i = j then (f10_currentOf τ (nI i) a).toInt else 0) = if str i = nI jn then cur i else 0
      rw [(hS i hi).2, hcu i hi, hnI]
    have hsb : 0 ≤ SS str cur c jn ∧ SS str cur c jn ≤ 2000000 * c := by
      unfold SS
      refine sN_bd (fun i hi => ?_)
      have := hR i hi
      show 0 ≤ (if str i = nI jn then cur i else 0) ∧ (if str i = nI jn then cur i else 0) ≤ 2000000
      split <;> omega
    have hg : (f10_givesOf τ j a).1 = Int32.toInt64 (f5_best (f5_rank σ j)) := by rw [j_eq, j_of]; exact b1.symm
    have hsg := sN_s (SS str cur c) jn
    generalize f5_sumOfRanked (f5_rank σ j) = sm at *
    generalize f5_best (f5_rank σ j) = b at *
    generalize f5_rank σ j = κ at *
    generalize (f10_givesOf τ j a).1 = g at *
    generalize (f10_givesOf τ j a).2 = υ at *
    unfold f10_writeBook_ab
    rw [N_of hj, n3, n4, n5, ag1.2.1 4 rfl, ag2.2.1 31 rfl]
    obtain ⟨hc1, hc3⟩ := hce jn (by omega)
    obtain ⟨d1, d2⟩ := ceil_two (b := b) (ce := gA σ 4 jn) (g := g) ⟨b2, b3⟩ hg hc3
    rw [← hc1, ← d2, ← d1]
    have d3 : Int32.toInt64 (sm - b) = Int64.ofInt (SS str cur c jn - b.toInt) := by
      rw [toI64, i_sub (by omega) (by omega), hsum]
    rw [d3]
    generalize Int32.toInt64 (b - if gA σ 4 jn < b then gA σ 4 jn else b) = Y at *
    generalize Int32.toInt64 (if gA σ 4 jn < b then gA σ 4 jn else b) = Z at *
    have r1 : ∀ X : Int64, gB (uB κ 2 3 X) 2 4 = gB κ 2 4 := fun X => rfl
    have r2 : ∀ X Y : Int64, gB (uB (uB κ 2 3 X) 2 4 Y) 2 5 = gB κ 2 5 := fun X Y => rfl
    have t1 : ∀ X : Int64, gB (uB υ 10 3 X) 10 4 = gB υ 10 4 := fun X => rfl
    have t2 : ∀ X Y : Int64, gB (uB (uB υ 10 3 X) 10 4 Y) 10 5 = gB υ 10 5 := fun X Y => rfl
    rw [r1, r2, t1, t2, ag1.2.2 2 rfl, ag2.2.2 10 rfl]
    obtain ⟨w0, w1, w2, w3⟩ := g3 κ 2 (a := 3) (b := 4) (d := 5) (by decide) (by decide) (by decide) (gB σ 2 3 + Int64.ofInt (SS str cur c jn - b.toInt)) (gB σ 2 4 + Y) (gB σ 2 5 + Z)
    obtain ⟨v0, v1, v2, v3⟩ := g3 υ 10 (a := 3) (b := 4) (d := 5) (by decide) (by decide) (by decide) (gB τ 10 3 - g) (gB τ 10 4 + Y) (gB τ 10 5 + Z)
    have A1 : Ag i4 a5 b2x σ (uB (uB (uB κ 2 3 (gB σ 2 3 + Int64.ofInt (SS str cur c jn - b.toInt))) 2 4 (gB σ 2 4 + Y)) 2 5 (gB σ 2 5 + Z)) := (((ag1.mono (fun _ h => h) (fun _ h => h) (fun _ _ => rfl)).uB rfl).uB rfl).uB rfl
    have A2 : Ag pT pT b1012 τ (uB (uB (uB υ 10 3 (gB τ 10 3 - g)) 10 4 (gB τ 10 4 + Y)) 10 5 (gB τ 10 5 + Z)) := (((ag2.mono (fun _ h => h) (fun _ h => h) b1012_12).uB rfl).uB rfl).uB rfl
    rw [ag1.2.2 2 rfl] at w3
    rw [ag2.2.2 10 rfl] at v3
    generalize uB (uB (uB κ 2 3 (gB σ 2 3 + Int64.ofInt (SS str cur c jn - b.toInt))) 2 4 (gB σ 2 4 + Y)) 2 5 (gB σ 2 5 + Z) = σ' at *
    generalize uB (uB (uB υ 10 3 (gB τ 10 3 - g)) 10 4 (gB τ 10 4 + Y)) 10 5 (gB τ 10 5 + Z) = τ' at *
    have M2 : Ag mI mA mB τ τ' := A2.mono (fun _ _ => rfl) (fun _ _ => rfl) mB_x
    obtain ⟨y1, y2, y3, y4, y5⟩ := bookQ (a := a) (c := c) (str := str) (cur := cur) h10 hR n σ' τ' (j + 1) (jn + 1) (by rw [A1.1 2 rfl]; exact hc) (by rw [A2.1 20 rfl]; exact hc2) (fun i hi => by rw [A1.2.1 1 rfl, current_ag M2]; exact hW i hi) (fun i hi => by rw [current_ag M2]; exact hcu i hi) (fun i hi => by rw [A1.2.1 16 rfl, M2.2.1 26 rfl]; exact hS i hi) (fun q hq => by rw [A1.2.1 4 rfl, A2.2.1 31 rfl]; exact hce q hq)
      (by
        refine ⟨by rw [w1, v1, hq.1], by rw [w2, v2, hq.2.1], ?_⟩
        rw [v0, w0, hq.2.2, hsg, hg, toI64, Int64.ofInt_sub, Int64.ofInt_sub, Int64.ofInt_sub, Int64.ofInt_add]
        generalize gB σ 2 3 = p1
        generalize Int64.ofInt (sN (SS str cur c) 4) = p2
        generalize Int64.ofInt (sN (SS str cur c) jn) = p3
        generalize Int64.ofInt (SS str cur c jn) = p4
        generalize Int64.ofInt b.toInt = p5
        grind) (by omega) (by omega) (by omega)
    refine ⟨y1, A1.tr y2, A2.tr y3, fun q hq2 => ?_, fun q hq2 => ?_⟩
    · rw [y4 q hq2]; exact w3 q (by omega) (by omega) (by omega)
    · rw [y5 q hq2]; exact v3 q (by omega) (by omega) (by omega)
theorem nI_ne {p q : Nat} (hp : p < 10) (hq : q < 10) (h : p ≠ q) : ¬ nI p = nI q := by
  rw [i_eq, nI_t10 hp, nI_t10 hq]; omega
theorem nI_m1 {p : Nat} (hp : p < 10) : ¬ nI p = -1 := by
  rw [i_eq, nI_t10 hp, lit_m1]; omega
theorem m1_nI {p : Nat} (hp : p < 10) : ¬ (-1 : Int32) = nI p := fun q => nI_m1 hp q.symm
theorem str_tot {str : Nat → Int32} {cur : Nat → Int} {c : Nat} (hs : ∀ i, i < c → -1 ≤ (str i).toInt ∧ (str i).toInt ≤ 3) : sN (fun i => if str i = -1 then 0 else cur i) c = sN (SS str cur c) 4 := by
  have e : sN (SS str cur c) 4 = SS str cur c 0 + SS str cur c 1 + SS str cur c 2 + SS str cur c 3 := by
    have a0 : sN (SS str cur c) 1 = sN (SS str cur c) 0 + SS str cur c 0 := rfl
    have a1 : sN (SS str cur c) 2 = sN (SS str cur c) 1 + SS str cur c 1 := rfl
    have a2 : sN (SS str cur c) 3 = sN (SS str cur c) 2 + SS str cur c 2 := rfl
    have a3 : sN (SS str cur c) 4 = sN (SS str cur c) 3 + SS str cur c 3 := rfl
    have az := sN_z (SS str cur c)
    omega
  rw [e]
  unfold SS
  rw [← sN_add, ← sN_add, ← sN_add]
  refine sN_cg (fun i hi => ?_)
  show (if str i = -1 then 0 else cur i) = ((if str i = nI 0 then cur i else 0) + (if str i = nI 1 then cur i else 0) + (if str i = nI 2 then cur i else 0)) + (if str i = nI 3 then cur i else 0)
  have h := hs i hi
  have k0 := nI_t10 (i := 0) (by omega)
  have k1 := nI_t10 (i := 1) (by omega)
  have k2 := nI_t10 (i := 2) (by omega)
  have k3 := nI_t10 (i := 3) (by omega)
  rcases (show str i = -1 ∨ str i = nI 0 ∨ str i = nI 1 ∨ str i = nI 2 ∨ str i = nI 3 by rw [i_eq, i_eq, i_eq, i_eq, i_eq, lit_m1]; omega) with q | q | q | q | q <;> rw [q]
  · rw [if_pos rfl, if_neg (m1_nI (by omega)), if_neg (m1_nI (by omega)), if_neg (m1_nI (by omega)), if_neg (m1_nI (by omega))]; omega
  · rw [if_neg (nI_m1 (by omega)), if_pos rfl, if_neg (nI_ne (by omega) (by omega) (by omega)), if_neg (nI_ne (by omega) (by omega) (by omega)), if_neg (nI_ne (by omega) (by omega) (by omega))]; omega
  · rw [if_neg (nI_m1 (by omega)), if_neg (nI_ne (p := 1) (q := 0) (by omega) (by omega) (by omega)), if_pos rfl, if_neg (nI_ne (p := 1) (q := 2) (by omega) (by omega) (by omega)), if_neg (nI_ne (p := 1) (q := 3) (by omega) (by omega) (by omega))]; omega
  · rw [if_neg (nI_m1 (by omega)), if_neg (nI_ne (p := 2) (q := 0) (by omega) (by omega) (by omega)), if_neg (nI_ne (p := 2) (q := 1) (by omega) (by omega) (by omega)), if_pos rfl, if_neg (nI_ne (p := 2) (q := 3) (by omega) (by omega) (by omega))]; omega
  · rw [if_neg (nI_m1 (by omega)), if_neg (nI_ne (p := 3) (q := 0) (by omega) (by omega) (by omega)), if_neg (nI_ne (p := 3) (q := 1) (by omega) (by omega) (by omega)), if_neg (nI_ne (p := 3) (q := 2) (by omega) (by omega) (by omega)), if_pos rfl]; omega
/-! dust washed at the hour's end -/
theorem washA {c : Nat} : ∀ (n : Nat) (σ : St) (j : Int32) (jn : Nat), (c : Int) = (gI σ 2).toInt → c ≤ 10 → (jn : Int) = j.toInt → jn ≤ c → c < jn + n →
    Ag pT a14 pT σ (f0_washAll_L n σ j) ∧ (∀ i, jn ≤ i → i < c → gA (f0_washAll_L n σ j) 14 i = 0) ∧ (∀ i, i < jn → gA (f0_washAll_L n σ j) 14 i = gA σ 14 i)
  | 0, σ, j, jn, hc, h10, hj, h1, hf => by omega
  | n + 1, σ, j, jn, hc, h10, hj, h1, hf => by
    unfold f0_washAll_L
    by_cases e : gI σ 2 ≤ j
    · rw [if_pos e]
      rw [i_le] at e
      exact ⟨Ag.rf _, fun i g1 g2 => by omega, fun i _ => rfl⟩
    rw [if_neg e, lose_eq]
    rw [i_le] at e
    have e1 : (j + 1).toInt = j.toInt + 1 := i_add1 (b := 10) (by omega) (by omega)
    rw [N_of hj]
    dsimp only
    obtain ⟨y1, y2, y3⟩ := washA n (uA σ 14 jn 0) (j + 1) (jn + 1) hc h10 (by omega) (by omega) (by omega)
    refine ⟨((Ag.rf σ).uA rfl).tr y1, fun i g1 g2 => ?_, fun i g1 => ?_⟩
    · by_cases ei : i = jn
      · subst ei; rw [y3 i (by omega), gAs]
      · exact y2 i (by omega) g2
    · rw [y3 i (by omega)]; exact gAn σ 14 0 (by omega)
theorem hourL {H : Int32} {c : Nat} : ∀ (n : Nat) (τ : St) (r : Int32) (rn : Nat), (c : Int) = (gI τ 20).toInt → c ≤ 10 → (rn : Int) = r.toInt → rn ≤ c → c < rn + n →
    ∃ τ1, f10_hour_L H n τ r = (gI τ 23, uI (uI τ1 25 1) 22 ((H + 1) - (H + 1) / 24 * 24)) ∧ Ag pT a24 pT τ τ1 ∧ (gI τ 23 = 1 → (∀ i, rn ≤ i → i < c → gA τ1 24 i = 0) ∧ ∀ i, i < rn → gA τ1 24 i = gA τ 24 i) ∧ (¬ gI τ 23 = 1 → gA τ1 24 = gA τ 24)
  | 0, τ, r, rn, hc, h10, hj, h1, hf => by omega
  | n + 1, τ, r, rn, hc, h10, hj, h1, hf => by
    unfold f10_hour_L
    by_cases e : gI τ 20 ≤ r
    · rw [if_pos e]
      rw [i_le] at e
      exact ⟨τ, rfl, Ag.rf _, fun _ => ⟨fun i g1 g2 => by omega, fun i _ => rfl⟩, fun _ => rfl⟩
    rw [if_neg e]
    rw [i_le] at e
    have e1 : (r + 1).toInt = r.toInt + 1 := i_add1 (b := 10) (by omega) (by omega)
    by_cases z : gI τ 23 = 1
    · rw [if_pos z, N_of hj]
      obtain ⟨τ1, y1, y2, y3, y4⟩ := hourL (H := H) n (uA τ 24 rn 0) (r + 1) (rn + 1) hc h10 (by omega) (by omega) (by omega)
      obtain ⟨y5, y6⟩ := y3 z
      refine ⟨τ1, y1, ((Ag.rf τ).uA rfl).tr y2, fun _ => ⟨fun i g1 g2 => ?_, fun i g1 => ?_⟩, fun q => absurd z q⟩
      · by_cases ei : i = rn
        · subst ei; rw [y6 i (by omega), gAs]
        · exact y5 i (by omega) g2
      · rw [y6 i (by omega)]; exact gAn τ 24 0 (by omega)
    · rw [if_neg z]
      exact ⟨τ, rfl, Ag.rf _, fun q => absurd q z, fun _ => rfl⟩
