theorem or_tw (b w : Int32) : (b ||| w) ||| w = b ||| w := by rw [Int32.or_assoc, Int32.or_self]
def dkP (σ : St) (bg sp : Int64) (j : Int) : Prop := ∃ i : Nat, j ≤ i ∧ (i : Int) < (gI σ 13).toInt ∧ ¬ sp ≤ 3 * gB σ 6 i ∧ ¬ 3 * gB σ 7 i ≤ bg
theorem darkI (σ : St) (q : Int32) (bg sp : Int64) (hc : (gI σ 13).toInt ≤ 10) : ∀ (n : Nat) (b : Int32) (j : Int32), 0 ≤ j.toInt → j.toInt ≤ (gI σ 13).toInt → (gI σ 13).toInt < j.toInt + n →
    (dkP σ bg sp j.toInt → f2_darkGroups_I σ q bg sp n b j = b ||| ((1 : Int32) <<< (q &&& 31))) ∧ (¬ dkP σ bg sp j.toInt → f2_darkGroups_I σ q bg sp n b j = b)
  | 0, b, j, h0, h1, hf => by omega
  | n + 1, b, j, h0, h1, hf => by
    unfold f2_darkGroups_I
    by_cases c : gI σ 13 ≤ j
    · rw [if_pos c]
      have t := t_le c rfl rfl
      refine ⟨fun g => ?_, fun _ => rfl⟩
      obtain ⟨i, i1, i2, -⟩ := g
      omega
    rw [if_neg c]
    have t := t_nle c rfl rfl
    have e1 : (j + 1).toInt = j.toInt + 1 := i_add1 (b := 10) (by omega) (by omega)
    have hN : ((Int32.toNatClampNeg j : Nat) : Int) = j.toInt := by simp only [Int32.toNatClampNeg]; omega
    generalize Int32.toNatClampNeg j = q0 at hN
    have up : dkP σ bg sp (j + 1).toInt → dkP σ bg sp j.toInt := by
      rintro ⟨i, i1, i2, i3⟩; exact ⟨i, by omega, i2, i3⟩
    have dn : (sp ≤ 3 * gB σ 6 q0 ∨ 3 * gB σ 7 q0 ≤ bg) → dkP σ bg sp j.toInt → dkP σ bg sp (j + 1).toInt := by
      rintro w ⟨i, i1, i2, i3, i4⟩
      refine ⟨i, ?_, i2, i3, i4⟩
      have : i ≠ q0 := by rintro rfl; exact w.elim i3 i4
      omega
    by_cases c1 : sp ≤ 3 * gB σ 6 q0
    · rw [if_pos c1]
      obtain ⟨y1, y2⟩ := darkI σ q bg sp hc n b (j + 1) (by omega) (by omega) (by omega)
      exact ⟨fun g => y1 (dn (Or.inl c1) g), fun g => y2 (fun w => g (up w))⟩
    rw [if_neg c1]
    by_cases c2 : 3 * gB σ 7 q0 ≤ bg
    · rw [if_pos c2]
      obtain ⟨y1, y2⟩ := darkI σ q bg sp hc n b (j + 1) (by omega) (by omega) (by omega)
      exact ⟨fun g => y1 (dn (Or.inr c2) g), fun g => y2 (fun w => g (up w))⟩
    rw [if_neg c2]
    obtain ⟨y1, y2⟩ := darkI σ q bg sp hc n (b ||| ((1 : Int32) <<< (q &&& 31))) (j + 1) (by omega) (by omega) (by omega)
    refine ⟨fun _ => ?_, fun g => absurd (show dkP σ bg sp j.toInt from ⟨q0, by omega, by omega, c1, c2⟩) g⟩
    by_cases d : dkP σ bg sp (j + 1).toInt
    · rw [y1 d, or_tw]
    · exact y2 d
theorem j_3mul {x : Int64} (h1 : -1000000000000000 ≤ x.toInt) (h2 : x.toInt ≤ 1000000000000000) : (3 * x).toInt = 3 * x.toInt := by rw [j_mul (by rw [jl_3]; omega) (by rw [jl_3]; omega), jl_3]
theorem grp {ρ τ : St} {a r : Int32} (J : JN ρ τ a) (h0 : 0 ≤ r.toInt) (h1 : r.toInt < (gI ρ 2).toInt) {W d : Int} (hW : W = Z1 τ a (Int32.toNatClampNeg r) - Z0 τ a (Int32.toNatClampNeg r)) (hl : 0 < W) {bg sp fr1 to1 : Int64}
    (hbg : bg.toInt = 3 * Z0 τ a (Int32.toNatClampNeg r) + d) (hsp : sp.toInt = bg.toInt + W) (hfr : fr1.toInt = bg.toInt) (hto : to1.toInt = sp.toInt) (hd : 0 ≤ d ∧ d ≤ 2 * W) : dkP (f0_castShade ρ r) bg sp 0 ↔ ¬ f10_shaded τ r a fr1 to1 ≤ 0 := by
  obtain ⟨r1, r2, r3, r4, r5, r6⟩ := J.row h0 h1
  obtain ⟨p1, p2, p3, p4⟩ := cast_spec J h0 h1
  obtain ⟨m, hm⟩ : ∃ m : Nat, (m : Int) = W := ⟨W.toNat, by omega⟩
  have sp1 := sw_spec J.2.1 (r := r) (h := a) (c := (gI ρ 2).toInt) (L0 := Z0 τ a) (L1 := Z1 τ a) (by rw [J.2.2.1]) J.1.cnt.2 J.2.2.2.2.2 (x := (gI ρ 3).toInt) (by rw [J.2.2.2.1]) (fr := fr1) (to := to1) m (by omega) (by omega) (by omega)
  have hp := cnt_pos (P := fun t => Cv (Z0 τ a) (Z1 τ a) (gI ρ 2).toInt (gI ρ 3).toInt r.toInt (t / 3)) (a := fr1.toInt) (n := m)
  rw [← sp1] at hp
  have e : ¬ f10_shaded τ r a fr1 to1 ≤ 0 ↔ 0 < (f10_shaded τ r a fr1 to1).toInt := by rw [l_le, jl_0]; omega
  rw [e, hp]
  constructor
  · rintro ⟨i, i1, i2, i3, i4⟩
    obtain ⟨k, k1, k2, k3, k4, k5⟩ := (p2 _ _).mp ⟨i, i2, rfl, rfl⟩
    obtain ⟨s1, s2⟩ := J.pcs h0 h1 k1
    obtain ⟨-, b1, b2⟩ := J.2.2.2.2.2 k k1
    have m3 := j_3mul (x := f2_shadeStart ρ r (nI k)) (by omega) (by omega)
    have m4 := j_3mul (x := f2_shadeEnd ρ r (nI k)) (by omega) (by omega)
    rw [k4, l_le, m3] at i3
    rw [k5, l_le, m4] at i4
    rw [l_le] at k3
    exact ⟨max fr1.toInt (3 * min (Z0 τ a k) (Z1 τ a k)), by omega, by omega, k, k1, k2, by omega, by omega⟩
  · rintro ⟨t, t1, t2, k, k1, k2, k3, k4⟩
    obtain ⟨s1, s2⟩ := J.pcs h0 h1 k1
    obtain ⟨-, b1, b2⟩ := J.2.2.2.2.2 k k1
    have m3 := j_3mul (x := f2_shadeStart ρ r (nI k)) (by omega) (by omega)
    have m4 := j_3mul (x := f2_shadeEnd ρ r (nI k)) (by omega) (by omega)
    obtain ⟨i, i2, i3, i4⟩ := (p2 (f2_shadeStart ρ r (nI k)) (f2_shadeEnd ρ r (nI k))).mpr ⟨k, k1, k2, by rw [l_le]; omega, rfl, rfl⟩
    exact ⟨i, by omega, i2, by rw [i3, l_le, m3]; omega, by rw [i4, l_le, m4]; omega⟩
theorem darkL {σ τ : St} {r a : Int32} {fr th : Int64} (h : ∀ q : Int32, 0 ≤ q.toInt → q.toInt ≤ 2 → (dkP σ (3 * gB σ 4 (Int32.toNatClampNeg r) + Int32.toInt64 q * th) ((3 * gB σ 4 (Int32.toNatClampNeg r) + Int32.toInt64 q * th) + th) 0 ↔ ¬ f10_shaded τ r a (fr + Int32.toInt64 q * th) (fr + Int32.toInt64 (q + 1) * th) ≤ 0)) (hc : 0 ≤ (gI σ 13).toInt ∧ (gI σ 13).toInt ≤ 10) : ∀ (n : Nat) (b q : Int32), 0 ≤ q.toInt → f2_darkGroups_L σ r th n b q = f10_darkOf_L τ r a fr th n b q
  | 0, b, q, _ => rfl
  | n + 1, b, q, hq => by
    rw [f2_darkGroups_L, f10_darkOf_L]
    by_cases c : (3 : Int32) ≤ q
    · rw [if_pos c, if_pos c]
    rw [if_neg c, if_neg c]
    have t := t_nle c lit_3 rfl
    have e1 : (q + 1).toInt = q.toInt + 1 := i_add1 (b := 10) (by omega) (by omega)
    have hh := h q hq (by omega)
    obtain ⟨d1, d2⟩ := darkI σ q (3 * gB σ 4 (Int32.toNatClampNeg r) + Int32.toInt64 q * th) ((3 * gB σ 4 (Int32.toNatClampNeg r) + Int32.toInt64 q * th) + th) hc.2 11 b 0 (by rw [lit_0]; omega) (by rw [lit_0]; omega) (by rw [lit_0]; omega)
    rw [lit_0] at d1 d2
    by_cases s : f10_shaded τ r a (fr + Int32.toInt64 q * th) (fr + Int32.toInt64 (q + 1) * th) ≤ 0
    · rw [if_pos s, d2 (fun w => hh.mp w s), Int32.or_zero]
      exact darkL h hc n b (q + 1) (by omega)
    · rw [if_neg s, d1 (hh.mpr s)]
      exact darkL h hc n _ (q + 1) (by omega)
theorem JN.dark_eq {ρ τ : St} {a r : Int32} (J : JN ρ τ a) (h0 : 0 ≤ r.toInt) (h1 : r.toInt < (gI ρ 2).toInt) (hl : ¬ f10_breadthOf τ r a ≤ 0) : f2_darkGroups (f0_castShade ρ r) r = f10_darkOf τ r a := by
  obtain ⟨r1, r2, r3, r4, r5, r6⟩ := J.row h0 h1
  obtain ⟨b1, b2⟩ := J.br h0 h1
  rw [l_le, b1, jl_0] at hl
  obtain ⟨p1, p2, p3, p4⟩ := cast_spec J h0 h1
  obtain ⟨z1, z2⟩ := J.2.2.2.2.1 r h0 h1
  have hth : gB (f0_castShade ρ r) 5 (Int32.toNatClampNeg r) - gB (f0_castShade ρ r) 4 (Int32.toNatClampNeg r) = f10_breadthOf τ r a := by rw [p3.2.2 4 rfl, p3.2.2 5 rfl, z1, z2]; rfl
  have hfr : gB (f0_castShade ρ r) 4 (Int32.toNatClampNeg r) = f10_look τ r 0 a := by rw [p3.2.2 4 rfl, z1]
  have f3 : (3 * f10_look τ r 0 a).toInt = 3 * Z0 τ a (Int32.toNatClampNeg r) := by rw [j_3mul (by omega) (by omega), r3]
  unfold f2_darkGroups f10_darkOf
  rw [hth]
  refine darkL (fun q q0 q2 => ?_) p4 4 0 0 (by rw [lit_0]; omega)
  rw [hfr]
  generalize f10_breadthOf τ r a = th at *
  obtain ⟨W, hW⟩ : ∃ W : Int, W = Z1 τ a (Int32.toNatClampNeg r) - Z0 τ a (Int32.toNatClampNeg r) := ⟨_, rfl⟩
  have bW : th.toInt = W := by omega
  have e1 : (q + 1).toInt = q.toInt + 1 := i_add1 (b := 10) (by omega) (by omega)
  have hd : 0 ≤ q.toInt * W ∧ q.toInt * W ≤ 2 * W ∧ (q.toInt + 1) * W = q.toInt * W + W := by
    rcases (show q.toInt = 0 ∨ q.toInt = 1 ∨ q.toInt = 2 by omega) with e | e | e <;> rw [e] <;> omega
  have m1 : (Int32.toInt64 q * th).toInt = q.toInt * W := by
    rw [j_mul (by rw [j_of, bW]; omega) (by rw [j_of, bW]; omega), j_of, bW]
  have m2 : (Int32.toInt64 (q + 1) * th).toInt = q.toInt * W + W := by
    rw [j_mul (by rw [j_of, bW, e1]; omega) (by rw [j_of, bW, e1]; omega), j_of, bW, e1]; omega
  have s1 : (3 * f10_look τ r 0 a + Int32.toInt64 q * th).toInt = 3 * Z0 τ a (Int32.toNatClampNeg r) + q.toInt * W := by
    rw [j_add (by rw [f3, m1]; omega) (by rw [f3, m1]; omega), f3, m1]
  have s2 : (3 * f10_look τ r 0 a + Int32.toInt64 q * th + th).toInt = 3 * Z0 τ a (Int32.toNatClampNeg r) + q.toInt * W + W := by
    rw [j_add (by rw [s1, bW]; omega) (by rw [s1, bW]; omega), s1, bW]
  have s3 : (3 * f10_look τ r 0 a + Int32.toInt64 (q + 1) * th).toInt = 3 * Z0 τ a (Int32.toNatClampNeg r) + q.toInt * W + W := by
    rw [j_add (by rw [f3, m2]; omega) (by rw [f3, m2]; omega), f3, m2]; omega
  exact grp J h0 h1 hW (by omega) s1 (by rw [s2, s1]) rfl (by rw [s2, s3]) ⟨hd.1, hd.2.1⟩
/-! shade, dark -/
theorem unlit_ag {σ τ : St} (g : Ag mI mA mB σ τ) (a b : Int32) : f10_unlit τ a b = f10_unlit σ a b := by
  unfold f10_unlit; rw [unseen_ag (g.1 20 rfl) (g.2.1 28 rfl), breadth_ag g]
theorem ans_ag (σ : St) (c : Int32) : Ag mI mA mB σ (f9_answer σ c).2 := show Ag mI mA mB σ (uA σ 0 _ _) from (Ag.rf σ).uA rfl
theorem lit_cases {k : Nat} {σ : St} (h : Rel k σ) (a b : Int32) : (∃ c σ1, five c ∧ f9_findingOfShade σ a b = (c, σ1) ∧ Rel k σ1 ∧ f10_unlit σ1 a b = c) ∨ (f9_findingOfShade σ a b = (0, f9_lookFrom σ b) ∧ f10_unlit (f9_lookFrom σ b) a b = 0 ∧ (0 ≤ a.toInt ∧ a.toInt < (gI (f9_lookFrom σ b) 2).toInt) ∧ vp_in b 24 ∧ ¬ f10_breadthOf (f9_lookFrom σ b) a b ≤ 0) := by
  rcases sight_cases h a b with ⟨c, hc, e1, e2⟩ | ⟨e1, e2, e3, e4, e5⟩
  · left
    exact ⟨c, σ, hc, by unfold f9_findingOfShade; rw [e1, if_neg (five_ne hc)], h, by unfold f10_unlit; rw [e2, if_neg (five_neg hc)]⟩
  · have hr := lookFrom_Rel h e4
    have J := JN_of h e4 (Ag.rf _) hr.1
    have sp := lookFrom_spec h e4
    obtain ⟨g1, g2⟩ := row_rg h.1 e3
    have g3 : a.toInt < (gI (f9_lookFrom σ b) 2).toInt := by rw [sp.1.1 2 rfl]; exact g2
    have eu : f10_unseen (f9_lookFrom σ b) a b = 0 := by rw [unseen_ag (sp.1.1 20 rfl) (sp.1.2.1 28 rfl), e2]
    by_cases l : f10_breadthOf (f9_lookFrom σ b) a b ≤ 0
    · left
      refine ⟨-1000000003, f9_lookFrom σ b, f3, ?_, hr, ?_⟩
      · unfold f9_findingOfShade; rw [if_pos e1, if_pos ((J.lit g1 g3).mpr l)]
      · unfold f10_unlit; rw [eu, if_pos (by decide), if_pos l]
    · right
      refine ⟨?_, ?_, ⟨g1, g3⟩, e4, l⟩
      · unfold f9_findingOfShade; rw [if_pos e1, if_neg (fun q => l ((J.lit g1 g3).mp q))]
      · unfold f10_unlit; rw [eu, if_pos (by decide), if_neg l]
theorem i13_m : ∀ k, mI k = true → i13 k = true := fun k hk => by
  unfold mI at hk; unfold i13
  simp only [Bool.or_eq_true, beq_iff_eq] at hk
  simp only [bne_iff_ne, ne_eq]
  omega
theorem i13_s : ∀ k, sI k = true → i13 k = true := fun k hk => by
  unfold sI at hk; unfold i13
  simp only [Bool.and_eq_true, bne_iff_ne, ne_eq] at hk
  simp only [bne_iff_ne, ne_eq]
  omega
theorem b67_s : ∀ k, sB k = true → b67 k = true := fun k hk => by
  unfold sB at hk; unfold b67
  simp only [Bool.and_eq_true, bne_iff_ne, ne_eq] at hk
  simp only [Bool.and_eq_true, bne_iff_ne, ne_eq]
  omega
theorem mB_x {p : Nat → Bool} : ∀ k, mB k = true → p k = true := fun _ h => absurd h Bool.false_ne_true
theorem cast_ags {k : Nat} {σ : St} (h : Rel k σ) {b : Int32} (hb : vp_in b 24) {a : Int32} (g1 : 0 ≤ a.toInt) (g2 : a.toInt < (gI (f9_lookFrom σ b) 2).toInt) : Ag mI mA mB (f9_lookFrom σ b) (f0_castShade (f9_lookFrom σ b) a) ∧ Ag sI sA sB (f9_lookFrom σ b) (f0_castShade (f9_lookFrom σ b) a) := by
  have J := JN_of h hb (Ag.rf _) (lookFrom_Rel h hb).1
  obtain ⟨p1, p2, p3, p4⟩ := cast_spec J g1 g2
  exact ⟨p3.mono i13_m (fun _ _ => rfl) mB_x, p3.mono i13_s (fun _ _ => rfl) b67_s⟩
theorem pu_shade (k : Nat) (σ : St) (a1 a2 : Int32) (h : Rel k σ) : Safe (f9_shade σ a1 a2).2 ∧ (f9_shade σ a1 a2).1 = (f10_shade (f9_shade σ a1 a2).2 a1 a2).1 ∧ Rel (k + 1) (f10_shade (f9_shade σ a1 a2).2 a1 a2).2 := by
  rcases lit_cases h a1 a2 with ⟨c, σ1, hc, e1, e2, e3⟩ | ⟨e1, e2, ⟨g1, g2⟩, e4, e5⟩
  · refine finL e2 hc (fun τ => f10_shade τ a1 a2) (by unfold f9_shade; rw [e1]; exact if_neg (five_ne hc)) ?_
    show f10_shade _ _ _ = _
    unfold f10_shade
    rw [unlit_ag (ans_ag σ1 c), e3, if_neg (five_neg hc)]
  · have hr := lookFrom_Rel h.up e4
    obtain ⟨m1, m2⟩ := cast_ags h e4 g1 g2
    have hs := sX0_castShade (a := a1) hr.1
    have J := JN_of h e4 m1 hs
    refine okk (fun τ => f10_shade τ a1 a2) (τ := f0_castShade (f9_lookFrom σ a2) a1) (ρ := f0_castShade (f9_lookFrom σ a2) a1) (v := f2_shaded (f0_castShade (f9_lookFrom σ a2) a1)) (w := f10_shadeOf (f0_castShade (f9_lookFrom σ a2) a1) a1 a2) ?_ ?_ hs ?_ (hr.ag m2 hs)
    · unfold f9_shade; rw [e1]; exact if_pos rfl
    · show f10_shade _ _ _ = _
      unfold f10_shade
      rw [unlit_ag m1, e2]
      exact if_pos (by decide)
    · exact J.shade_eq g1 g2 (by rw [breadth_ag m1]; exact e5)
theorem pu_dark (k : Nat) (σ : St) (a1 a2 : Int32) (h : Rel k σ) : Safe (f9_dark σ a1 a2).2 ∧ (f9_dark σ a1 a2).1 = (f10_dark (f9_dark σ a1 a2).2 a1 a2).1 ∧ Rel (k + 1) (f10_dark (f9_dark σ a1 a2).2 a1 a2).2 := by
  rcases lit_cases h a1 a2 with ⟨c, σ1, hc, e1, e2, e3⟩ | ⟨e1, e2, ⟨g1, g2⟩, e4, e5⟩
  · refine fin e2 hc (fun τ => f10_dark τ a1 a2) (by unfold f9_dark; rw [e1]; exact if_neg (five_ne hc)) ?_
    show f10_dark _ _ _ = _
    unfold f10_dark
    rw [unlit_ag (ans_ag σ1 c), e3, if_neg (five_neg hc)]
  · have hr := lookFrom_Rel h.up e4
    obtain ⟨m1, m2⟩ := cast_ags h e4 g1 g2
    have hs := sX0_castShade (a := a1) hr.1
    have J := JN_of h e4 m1 hs
    refine okk (fun τ => f10_dark τ a1 a2) (τ := f0_castShade (f9_lookFrom σ a2) a1) (ρ := f0_castShade (f9_lookFrom σ a2) a1) (v := f2_darkGroups (f0_castShade (f9_lookFrom σ a2) a1) a1) (w := f10_darkOf (f0_castShade (f9_lookFrom σ a2) a1) a1 a2) ?_ ?_ hs ?_ (hr.ag m2 hs)
    · unfold f9_dark; rw [e1]; exact if_pos rfl
    · show f10_dark _ _ _ = _
      unfold f10_dark
      rw [unlit_ag m1, e2]
      exact if_pos (by decide)
    · exact J.dark_eq g1 g2 (by rw [breadth_ag m1]; exact e5)
