theorem sX9_answer {σ : St} {a : Int32} (h : Safe σ) : Safe (f9_answer σ a).2 := sf_A (by decide) h
theorem sX3_loseDust {σ : St} {i : Nat} (h : Safe σ) : Safe (f3_loseDust σ i).2 := by
  unfold f3_loseDust
  split <;> exact sf_A (by decide) h
theorem sX4_put {σ : St} {a b c : Int32} (h : Safe σ) : Safe (f4_put σ a b c) := sf_A (by decide) (sf_A (by decide) h)
theorem sX7_take {σ : St} {a : Int64} {b : Int32} (h : Safe σ) : Safe (f7_take σ a b) := by
  unfold f7_take
  repeat' split
  all_goals first | exact h | exact sf_I (by decide) (sf_J h)
theorem sX8_stateAt {σ : St} {a : Int32} (h : Safe σ) : Safe (f8_stateAt σ a).2 := by
  unfold f8_stateAt
  repeat' split
  all_goals (repeat' (first | assumption | apply sf_I (by decide)))
theorem wi_t {a b c : Int32} (h : ¬ f9_isWithin a b c = 0) : b.toInt ≤ a.toInt ∧ a.toInt ≤ c.toInt := by
  unfold f9_isWithin at h
  split at h
  · exact absurd rfl h
  · rename_i h1
    split at h
    · exact absurd rfl h
    · rename_i h2
      have := t_nlt h1 rfl rfl
      have := t_nlt h2 rfl rfl
      omega
theorem isHour_in {a : Int32} (h : ¬ f9_isHour a = 0) : vp_in a 24 := by
  have h2 := wi_t h
  rw [lit_0, lit_23] at h2
  exact vin (by omega) (by omega)
theorem isString_in {a : Int32} (h : ¬ f9_isString a = 0) : vp_in a 4 := by
  have h2 := wi_t h
  rw [lit_0, lit_3] at h2
  exact vin (by omega) (by omega)
theorem isStep_rg {a : Int32} (h : ¬ f9_isStep a = 0) : -12 ≤ a.toInt ∧ a.toInt ≤ 12 := by
  have h2 := wi_t h
  rw [lit_m12, lit_12] at h2
  exact h2
theorem isRow_in {σ : St} {a : Int32} (hs : Safe σ) (h : ¬ f9_isRow σ a = 0) : vp_in a 10 := by
  have h2 := wi_t h
  have h3 := hs.cnt
  rw [lit_0, i_sub (by rw [lit_1]; omega) (by rw [lit_1]; omega), lit_1] at h2
  exact vin (by omega) (by omega)
theorem isSunWay_in {a b c : Int32} (h : ¬ f9_isSunWay a b c = 0) : vp_in a 24 := by
  unfold f9_isSunWay at h
  split at h
  · exact absurd rfl h
  · rename_i h1; exact isHour_in h1
theorem fa_rg {σ : St} {j : Int32} (h : vp_in j 10) : 0 ≤ (f0_firstAhead σ j).toInt ∧ (f0_firstAhead σ j).toInt ≤ 10 := by
  have h2 := vp_in_iff.mp h
  have h3 := i_add1 (x := j) (b := 10) (by omega) (by omega)
  unfold f0_firstAhead
  split
  · rw [lit_0]; decide
  · omega
theorem la_rg {σ : St} {j : Int32} (hs : Safe σ) (h : vp_in j 10) : (f0_lastAhead σ j).toInt ≤ 9 := by
  have h2 := vp_in_iff.mp h
  have h4 := hs.cnt
  unfold f0_lastAhead
  repeat' split
  all_goals first | (rw [lit_m1]; decide) | (rw [i_sub (by rw [lit_1]; omega) (by rw [lit_1]; omega), lit_1]; omega)
def f2_put_T (a3 : Int32) : Int64 :=
  (if (0 : Int32) ≤ a3 then (Int32.toInt64 (sinF (Int32.toNatClampNeg a3))) else (Int32.toInt64 (-(sinF (Int32.toNatClampNeg (-a3))))))
set_option maxHeartbeats 4000000 in
set_option maxRecDepth 100000 in
theorem bf2_put_T {X : CX} {Λ : LY} (C : OK X Λ cX2_put 14 RX2 1 23) (σ : St) {out : Int64} (a1 : Int32) (i2 : Nat) (a3 : Int32) (a4 : Int32) (a5 : Int32) (cs : Int64) (k : VV X Λ 14 32 [(0, .ref (adr Λ 10)), (1, .int (a1)), (2, .ref (adr Λ (27 + i2))), (3, .int (a3)), (4, .int (a4)), (5, .int (a5)), (6, .long (cs))] [.long (out)] (σ)) (h3 : -12 ≤ a3.toInt ∧ a3.toInt ≤ 12) (hres : (f2_put_T a3) = out) : VV X Λ 14 11 [(0, .ref (adr Λ 10)), (1, .int (a1)), (2, .ref (adr Λ (27 + i2))), (3, .int (a3)), (4, .int (a4)), (5, .int (a5)), (6, .long (cs))] [] σ := by
  unfold f2_put_T at hres
  refine v_iload_n (pc2 := 12) C 3 dX2_put_11 rfl rfl ?_
  refine v_ifge (pc2 := 26) (pc3 := 15) C dX2_put_12 rfl rfl (fun h12 => ?_) (fun h12 => ?_)
  · have hres := (if_pos h12).symm.trans hres
    refine v_sin (pc2 := 29) C (by decide +kernel) dX2_put_26 rfl ?_
    refine v_iload_n (pc2 := 30) C 3 dX2_put_29 rfl rfl ?_
    refine v_sinld (pc2 := 31) C (vin (by have := t_le h12 lit_0 rfl; omega) (by have := h3.2; omega)) dX2_put_30 rfl ?_
    refine v_i2l (pc2 := 32) C dX2_put_31 rfl ?_
    subst hres
    exact v_lv [0, 1, 2, 3, 4, 5, 6] rfl k
  · have hres := (if_neg h12).symm.trans hres
    refine v_sin (pc2 := 18) C (by decide +kernel) dX2_put_15 rfl ?_
    refine v_iload_n (pc2 := 19) C 3 dX2_put_18 rfl rfl ?_
    refine v_ineg (pc2 := 20) C dX2_put_19 rfl ?_
    refine v_sinld (pc2 := 21) C (neg_in h3.1 (t_nle h12 lit_0 rfl)) dX2_put_20 rfl ?_
    refine v_ineg (pc2 := 22) C dX2_put_21 rfl ?_
    refine v_i2l (pc2 := 23) C dX2_put_22 rfl ?_
    refine v_goto (pc2 := 32) C dX2_put_23 rfl ?_
    subst hres
    exact v_lv [0, 1, 2, 3, 4, 5, 6] rfl k
def f2_put (σ : St) (a1 : Int32) (i2 : Nat) (a3 : Int32) (a4 : Int32) (a5 : Int32) : St :=
  (uB (uB σ 4 (Int32.toNatClampNeg a1) (((((20000 : Int64) * (Int32.toInt64 (gA σ 11 i2))) * (Int32.toInt64 a5)) - (((20000 : Int64) * (Int32.toInt64 (gA σ 12 i2))) * (Int32.toInt64 a4))) - ((Int32.toInt64 (gA σ 13 i2)) * (((Int32.toInt64 (cosF (Int32.toNatClampNeg (if (0 : Int32) ≤ a3 then a3 else (0 : Int32) - a3)))) * (Int32.toInt64 a5)) - ((f2_put_T a3) * (Int32.toInt64 a4)))))) 5 (Int32.toNatClampNeg a1) (((((20000 : Int64) * (Int32.toInt64 (gA σ 11 i2))) * (Int32.toInt64 a5)) - (((20000 : Int64) * (Int32.toInt64 (gA σ 12 i2))) * (Int32.toInt64 a4))) + ((Int32.toInt64 (gA σ 13 i2)) * (((Int32.toInt64 (cosF (Int32.toNatClampNeg (if (0 : Int32) ≤ a3 then a3 else (0 : Int32) - a3)))) * (Int32.toInt64 a5)) - ((f2_put_T a3) * (Int32.toInt64 a4))))))
set_option maxHeartbeats 4000000 in
set_option maxRecDepth 100000 in
theorem bf2_put {X : CX} {Λ : LY} (C : OK X Λ cX2_put 14 RX2 1 23) {res : St} (E : EN X Λ none none res) (σ : St) (a1 : Int32) (i2 : Nat) (a3 : Int32) (a4 : Int32) (a5 : Int32) (hi2 : i2 < 10) (h1 : vp_in a1 10) (h3 : -12 ≤ a3.toInt ∧ a3.toInt ≤ 12) (hres : (f2_put σ a1 i2 a3 a4 a5) = res) : VV X Λ 14 0 [(0, .ref (adr Λ 10)), (1, .int (a1)), (2, .ref (adr Λ (27 + i2))), (3, .int (a3)), (4, .int (a4)), (5, .int (a5))] [] σ := by
  unfold f2_put at hres
  refine v_cos (pc2 := 3) C (by decide +kernel) dX2_put_0 rfl ?_
  refine v_iload_n (pc2 := 4) C 3 dX2_put_3 rfl rfl ?_
  refine v_mabs (pc2 := 7) C ml_X2_28 ms_mabs mi_Math mc_mabs (by decide) (Nat.le_of_ble_eq_true rfl) dX2_put_4 rfl ?_
  refine v_cosld (pc2 := 8) C (abs_in h3.1 h3.2) dX2_put_7 rfl ?_
  refine v_i2l (pc2 := 9) C dX2_put_8 rfl ?_
  refine v_lstore (pc2 := 11) (lv2 := [(6, _), (0, _), (1, _), (2, _), (3, _), (4, _), (5, _)]) C dX2_put_9 (by decide) rfl rfl ?_
  refine v_lv [1, 2, 3, 4, 5, 6, 0] rfl ?_
  refine bf2_put_T C σ a1 i2 a3 a4 a5 (Int32.toInt64 (cosF (Int32.toNatClampNeg (if (0 : Int32) ≤ a3 then a3 else (0 : Int32) - a3)))) (out := (f2_put_T a3)) ?_  h3 rfl
  refine v_lstore (pc2 := 34) (lv2 := [(8, _), (0, _), (1, _), (2, _), (3, _), (4, _), (5, _), (6, _)]) C dX2_put_32 (by decide) rfl rfl ?_
  refine v_ldc2 (pc2 := 37) C lc_X2_37 dX2_put_34 rfl ?_
  refine v_aload_n (pc2 := 38) C 3 dX2_put_37 rfl rfl ?_
  refine vg_X3_place (pc2 := 41) C hi2 lf_X2_39 dX2_put_38 rfl ?_
  refine v_i2l (pc2 := 42) C dX2_put_41 rfl ?_
  refine v_lmul (pc2 := 43) C dX2_put_42 rfl ?_
  refine v_iload (pc2 := 45) C 6 dX2_put_43 rfl rfl ?_
  refine v_i2l (pc2 := 46) C dX2_put_45 rfl ?_
  refine v_lmul (pc2 := 47) C dX2_put_46 rfl ?_
  refine v_ldc2 (pc2 := 50) C lc_X2_37 dX2_put_47 rfl ?_
  refine v_aload_n (pc2 := 51) C 3 dX2_put_50 rfl rfl ?_
  refine vg_X3_height (pc2 := 54) C hi2 lf_X2_45 dX2_put_51 rfl ?_
  refine v_i2l (pc2 := 55) C dX2_put_54 rfl ?_
  refine v_lmul (pc2 := 56) C dX2_put_55 rfl ?_
  refine v_iload (pc2 := 58) C 5 dX2_put_56 rfl rfl ?_
  refine v_i2l (pc2 := 59) C dX2_put_58 rfl ?_
  refine v_lmul (pc2 := 60) C dX2_put_59 rfl ?_
  refine v_lsub (pc2 := 61) C dX2_put_60 rfl ?_
  refine v_lstore (pc2 := 63) (lv2 := [(10, _), (8, _), (0, _), (1, _), (2, _), (3, _), (4, _), (5, _), (6, _)]) C dX2_put_61 (by decide) rfl rfl ?_
  refine v_aload_n (pc2 := 64) C 4 dX2_put_63 rfl rfl ?_
  refine vg_X3_width (pc2 := 67) C hi2 lf_X2_48 dX2_put_64 rfl ?_
  refine v_i2l (pc2 := 68) C dX2_put_67 rfl ?_
  refine v_lload (pc2 := 70) C 8 dX2_put_68 rfl rfl ?_
  refine v_iload (pc2 := 72) C 7 dX2_put_70 rfl rfl ?_
  refine v_i2l (pc2 := 73) C dX2_put_72 rfl ?_
  refine v_lmul (pc2 := 74) C dX2_put_73 rfl ?_
  refine v_lload (pc2 := 76) C 1 dX2_put_74 rfl rfl ?_
  refine v_iload (pc2 := 78) C 6 dX2_put_76 rfl rfl ?_
  refine v_i2l (pc2 := 79) C dX2_put_78 rfl ?_
  refine v_lmul (pc2 := 80) C dX2_put_79 rfl ?_
  refine v_lsub (pc2 := 81) C dX2_put_80 rfl ?_
  refine v_lmul (pc2 := 82) C dX2_put_81 rfl ?_
  refine v_lstore (pc2 := 84) (lv2 := [(12, _), (10, _), (8, _), (0, _), (1, _), (2, _), (3, _), (4, _), (5, _), (6, _)]) C dX2_put_82 (by decide) rfl rfl ?_
  refine v_aload_n (pc2 := 85) C 3 dX2_put_84 rfl rfl ?_
  refine vg_X2_start (pc2 := 88) C lf_X2_9 dX2_put_85 rfl ?_
  refine v_iload_n (pc2 := 89) C 4 dX2_put_88 rfl rfl ?_
  refine v_lload (pc2 := 91) C 1 dX2_put_89 rfl rfl ?_
  refine v_lload (pc2 := 93) C 0 dX2_put_91 rfl rfl ?_
  refine v_lsub (pc2 := 94) C dX2_put_93 rfl ?_
  refine as23 (pc2 := 95) C h1 dX2_put_94 rfl ?_
  refine v_aload_n (pc2 := 96) C 3 dX2_put_95 rfl rfl ?_
  refine vg_X2_end (pc2 := 99) C lf_X2_15 dX2_put_96 rfl ?_
  refine v_iload_n (pc2 := 100) C 4 dX2_put_99 rfl rfl ?_
  refine v_lload (pc2 := 102) C 1 dX2_put_100 rfl rfl ?_
  refine v_lload (pc2 := 104) C 0 dX2_put_102 rfl rfl ?_
  refine v_ladd (pc2 := 105) C dX2_put_104 rfl ?_
  refine as24 (pc2 := 106) C h1 dX2_put_105 rfl ?_
  exact r_vS C E hres dX2_put_106
theorem mX2_put (l : Launch) (Λ : LY) (σ : St) (a1 : Int32) (i2 : Nat) (hi2 : i2 < 10) (a3 : Int32) (a4 : Int32) (a5 : Int32) (h1 : vp_in a1 10) (h3 : -12 ≤ a3.toInt ∧ a3.toInt ≤ 12) : CT l Λ yX2_put cX2_put 14 none 1 23 [.ref (adr Λ 10), .int (a1), .ref (adr Λ (27 + i2)), .int (a3), .int (a4), .int (a5)] σ none (f2_put σ a1 i2 a3 a4 a5) := by
  refine CT_of (by decide +kernel) (Nat.le_of_ble_eq_true rfl) ?_
  intro X hX C E
  obtain ⟨res, hres⟩ : ∃ r, (f2_put σ a1 i2 a3 a4 a5) = r := ⟨_, rfl⟩
  rw [hres] at E
  exact bf2_put C E _ _ _ _ _ _ hi2 h1 h3 hres
def f2_isShaded_L (σ : St) (a1 : Int32) (a3 : Int32) : Nat → Int32 → Int32
  | 0, _ => (0)
  | n + 1, j => (if a3 < j then (0 : Int32) else (if (f2_shadeEnd σ a1 j) ≤ (f2_shadeStart σ a1 j) then (f2_isShaded_L σ a1 a3 n (j + (1 : Int32))) else (1 : Int32)))
set_option maxHeartbeats 4000000 in
set_option maxRecDepth 100000 in
theorem bf2_isShaded_L {X : CX} {Λ : LY} (C : OK X Λ cX2_isShaded 5 RX2 2 45) {σ : St} {res : Int32} (E : EN X Λ (some .boolean) (some (.int res)) σ) (a1 : Int32) (a3 : Int32)  : ∀ (n : Nat) (j : Int32), (h1 : vp_in a1 10) → (hr : RG a3 j n) → (f2_isShaded_L σ a1 a3 n j) = res → VV X Λ 5 3 [(0, .ref (adr Λ 10)), (1, .int (a1)), (3, .int (a3)), (4, .int (j))] [] σ := by
  intro n
  induction n with
  | zero => intro j h1 hr hres; exact absurd hr (fun h => h.z)
  | succ n ih =>
    intro j h1 hr hres
    rw [f2_isShaded_L] at hres
    refine v_iload (pc2 := 5) C 3 dX2_isShaded_3 rfl rfl ?_
    refine v_iload_n (pc2 := 6) C 2 dX2_isShaded_5 rfl rfl ?_
    refine v_icmpgt (pc2 := 35) (pc3 := 9) C dX2_isShaded_6 rfl rfl (fun h6 => ?_) (fun h6 => ?_)
    · have hres := (if_pos h6).symm.trans hres
      have t6 := t_lt h6 rfl rfl
      refine v_iconst (pc2 := 36) C dX2_isShaded_35 ki_0 rfl ?_
      exact r_zP C E (Or.inl rfl) hres dX2_isShaded_36
    · have hres := (if_neg h6).symm.trans hres
      have t6 := t_nlt h6 rfl rfl
      refine v_aload_n (pc2 := 10) C 0 dX2_isShaded_9 rfl rfl ?_
      refine v_iload_n (pc2 := 11) C 1 dX2_isShaded_10 rfl rfl ?_
      refine v_iload (pc2 := 13) C 3 dX2_isShaded_11 rfl rfl ?_
      refine v_cVl (pc2 := 16) C kc_X2_51 (mX2_shadeStart (xl X) Λ _ _ _ h1 (hr.in h6)) (wd10 Λ _) rfl (by decide) rfl rfl (Nat.le_of_ble_eq_true rfl) dX2_isShaded_13 rfl ?_
      refine v_aload_n (pc2 := 17) C 0 dX2_isShaded_16 rfl rfl ?_
      refine v_iload_n (pc2 := 18) C 1 dX2_isShaded_17 rfl rfl ?_
      refine v_iload (pc2 := 20) C 3 dX2_isShaded_18 rfl rfl ?_
      refine v_cVl (pc2 := 23) C kc_X2_55 (mX2_shadeEnd (xl X) Λ _ _ _ h1 (hr.in h6)) (wd10 Λ _) rfl (by decide) rfl rfl (Nat.le_of_ble_eq_true rfl) dX2_isShaded_20 rfl ?_
      refine v_lcge (pc2 := 29) (pc3 := 27) C dX2_isShaded_23 dX2_isShaded_24 rfl rfl (fun h23 => ?_) (fun h23 => ?_)
      · have hres := (if_pos h23).symm.trans hres
        refine v_iinc (pc2 := 32) (lv2 := [(4, _), (0, _), (1, _), (3, _)]) C 3 dX2_isShaded_29 rfl ki_1 (by decide) rfl rfl ?_
        refine v_goto (pc2 := 3) C dX2_isShaded_32 rfl ?_
        exact v_lv [1, 2, 3, 0] rfl (ih _ h1 (hr.step h6) hres)
      · have hres := (if_neg h23).symm.trans hres
        refine v_iconst (pc2 := 28) C dX2_isShaded_27 ki_1 rfl ?_
        exact r_zP C E (Or.inr rfl) hres dX2_isShaded_28
def f2_isShaded (σ : St) (a1 : Int32) (a2 : Int32) (a3 : Int32) : Int32 :=
  (f2_isShaded_L σ a1 a3 11 a2)
set_option maxHeartbeats 4000000 in
set_option maxRecDepth 100000 in
theorem bf2_isShaded {X : CX} {Λ : LY} (C : OK X Λ cX2_isShaded 5 RX2 2 45) {σ : St} {res : Int32} (E : EN X Λ (some .boolean) (some (.int res)) σ) (a1 : Int32) (a2 : Int32) (a3 : Int32) (h1 : vp_in a1 10) (h2 : 0 ≤ a2.toInt ∧ a2.toInt ≤ 10) (h3 : a3.toInt ≤ 9) (hres : (f2_isShaded σ a1 a2 a3) = res) : VV X Λ 5 0 [(0, .ref (adr Λ 10)), (1, .int (a1)), (2, .int (a2)), (3, .int (a3))] [] σ := by
  unfold f2_isShaded at hres
  refine v_iload_n (pc2 := 1) C 2 dX2_isShaded_0 rfl rfl ?_
  refine v_istore (pc2 := 3) (lv2 := [(4, _), (0, _), (1, _), (2, _), (3, _)]) C dX2_isShaded_1 (by decide) rfl rfl ?_
  exact v_lv [1, 2, 4, 0] rfl (bf2_isShaded_L C E _ _ 11 _ h1 ⟨h2.1, h2.2, h3, by omega, by omega⟩  hres)
theorem mX2_isShaded (l : Launch) (Λ : LY) (σ : St) (a1 : Int32) (a2 : Int32) (a3 : Int32) (h1 : vp_in a1 10) (h2 : 0 ≤ a2.toInt ∧ a2.toInt ≤ 10) (h3 : a3.toInt ≤ 9) : CT l Λ yX2_isShaded cX2_isShaded 5 (some .boolean) 2 45 [.ref (adr Λ 10), .int (a1), .int (a2), .int (a3)] σ (some (.int (f2_isShaded σ a1 a2 a3))) σ := by
  refine CT_of (by decide +kernel) (Nat.le_of_ble_eq_true rfl) ?_
  intro X hX C E
  obtain ⟨res, hres⟩ : ∃ r, (f2_isShaded σ a1 a2 a3) = r := ⟨_, rfl⟩
  rw [hres] at E
  exact bf2_isShaded C E _ _ _  h1 h2 h3 hres
theorem zX2_isShaded (σ : St) (a1 : Int32) (a2 : Int32) (a3 : Int32) : (f2_isShaded σ a1 a2 a3) = 0 ∨ (f2_isShaded σ a1 a2 a3) = 1 := by
  unfold f2_isShaded
  suffices h : ∀ n j, f2_isShaded_L σ a1 a3 n j = 0 ∨ f2_isShaded_L σ a1 a3 n j = 1 from h _ _
  intro n
  induction n with
  | zero => intro j; exact Or.inl rfl
  | succ n ih =>
    intro j; rw [f2_isShaded_L]; repeat' split
    all_goals first | exact Or.inl rfl | exact Or.inr rfl | exact ih _
def f2_addPiece_L (a1 : Int64) (a2 : Int64) : Nat → St → Int32 → St
  | 0, σ, _ => (σ)
  | n + 1, σ, j => (if j ≤ (0 : Int32) then (uI (uB (uB σ 6 (Int32.toNatClampNeg j) a1) 7 (Int32.toNatClampNeg j) a2) 13 ((gI (uB (uB σ 6 (Int32.toNatClampNeg j) a1) 7 (Int32.toNatClampNeg j) a2) 13) + (1 : Int32))) else (if (gB σ 6 (Int32.toNatClampNeg (j - (1 : Int32)))) ≤ a1 then (uI (uB (uB σ 6 (Int32.toNatClampNeg j) a1) 7 (Int32.toNatClampNeg j) a2) 13 ((gI (uB (uB σ 6 (Int32.toNatClampNeg j) a1) 7 (Int32.toNatClampNeg j) a2) 13) + (1 : Int32))) else (f2_addPiece_L a1 a2 n (uB (uB σ 6 (Int32.toNatClampNeg j) (gB σ 6 (Int32.toNatClampNeg (j - (1 : Int32))))) 7 (Int32.toNatClampNeg j) (gB (uB σ 6 (Int32.toNatClampNeg j) (gB σ 6 (Int32.toNatClampNeg (j - (1 : Int32))))) 7 (Int32.toNatClampNeg (j - (1 : Int32))))) (j + (-1 : Int32)))))
set_option maxHeartbeats 4000000 in
set_option maxRecDepth 100000 in
theorem bf2_addPiece_L {X : CX} {Λ : LY} (C : OK X Λ cX2_addPiece 6 RX2 0 0) {res : St} (E : EN X Λ none none res) (a1 : Int64) (a2 : Int64)  : ∀ (n : Nat) (σ : St) (j : Int32), (hd : DN j n) → (f2_addPiece_L a1 a2 n σ j) = res → VV X Λ 6 22 [(0, .ref (adr Λ 10)), (1, .long (a1)), (3, .long (a2)), (5, .int (j))] [] σ := by
  intro n
  induction n with
  | zero => intro σ j hd hres; exact absurd hd (fun h => h.z)
  | succ n ih =>
    intro σ j hd hres
    rw [f2_addPiece_L] at hres
    refine v_iload (pc2 := 24) C 3 dX2_addPiece_22 rfl rfl ?_
    refine v_ifle (pc2 := 79) (pc3 := 27) C dX2_addPiece_24 rfl rfl (fun h24 => ?_) (fun h24 => ?_)
    · have hres := (if_pos h24).symm.trans hres
      have t24 := t_le h24 rfl lit_0
      refine v_aload_n (pc2 := 80) C 0 dX2_addPiece_79 rfl rfl ?_
      refine vg_X2_from (pc2 := 83) C lf_X2_18 dX2_addPiece_80 rfl ?_
      refine v_iload (pc2 := 85) C 3 dX2_addPiece_83 rfl rfl ?_
      refine v_lload_n (pc2 := 86) C 1 dX2_addPiece_85 rfl rfl ?_
      refine as25 (pc2 := 87) C hd.in dX2_addPiece_86 rfl ?_
      refine v_aload_n (pc2 := 88) C 0 dX2_addPiece_87 rfl rfl ?_
      refine vg_X2_to (pc2 := 91) C lf_X2_21 dX2_addPiece_88 rfl ?_
      refine v_iload (pc2 := 93) C 3 dX2_addPiece_91 rfl rfl ?_
      refine v_lload_n (pc2 := 94) C 2 dX2_addPiece_93 rfl rfl ?_
      refine as26 (pc2 := 95) C hd.in dX2_addPiece_94 rfl ?_
      refine v_aload_n (pc2 := 96) C 0 dX2_addPiece_95 rfl rfl ?_
      refine v_dup (pc2 := 97) C dX2_addPiece_96 rfl rfl ?_
      refine vg_X2_pieces (pc2 := 100) C lf_X2_58 dX2_addPiece_97 rfl ?_
      refine v_iconst (pc2 := 101) C dX2_addPiece_100 ki_1 rfl ?_
      refine v_iadd (pc2 := 102) C dX2_addPiece_101 rfl ?_
      refine vp_X2_pieces (pc2 := 105) C lf_X2_58 dX2_addPiece_102 rfl ?_
      exact r_vS C E hres dX2_addPiece_105
    · have hres := (if_neg h24).symm.trans hres
      have t24 := t_nle h24 rfl lit_0
      refine v_aload_n (pc2 := 28) C 0 dX2_addPiece_27 rfl rfl ?_
      refine vg_X2_from (pc2 := 31) C lf_X2_18 dX2_addPiece_28 rfl ?_
      refine v_iload (pc2 := 33) C 3 dX2_addPiece_31 rfl rfl ?_
      refine v_iconst (pc2 := 34) C dX2_addPiece_33 ki_1 rfl ?_
      refine v_isub (pc2 := 35) C dX2_addPiece_34 rfl ?_
      refine al25 (pc2 := 36) C (hd.pin h24) dX2_addPiece_35 rfl ?_
      refine v_lload_n (pc2 := 37) C 1 dX2_addPiece_36 rfl rfl ?_
      refine v_lcle (pc2 := 79) (pc3 := 41) C dX2_addPiece_37 dX2_addPiece_38 rfl rfl (fun h37 => ?_) (fun h37 => ?_)
      · have hres := (if_pos h37).symm.trans hres
        refine v_aload_n (pc2 := 80) C 0 dX2_addPiece_79 rfl rfl ?_
        refine vg_X2_from (pc2 := 83) C lf_X2_18 dX2_addPiece_80 rfl ?_
        refine v_iload (pc2 := 85) C 3 dX2_addPiece_83 rfl rfl ?_
        refine v_lload_n (pc2 := 86) C 1 dX2_addPiece_85 rfl rfl ?_
        refine as25 (pc2 := 87) C hd.in dX2_addPiece_86 rfl ?_
        refine v_aload_n (pc2 := 88) C 0 dX2_addPiece_87 rfl rfl ?_
        refine vg_X2_to (pc2 := 91) C lf_X2_21 dX2_addPiece_88 rfl ?_
        refine v_iload (pc2 := 93) C 3 dX2_addPiece_91 rfl rfl ?_
        refine v_lload_n (pc2 := 94) C 2 dX2_addPiece_93 rfl rfl ?_
        refine as26 (pc2 := 95) C hd.in dX2_addPiece_94 rfl ?_
        refine v_aload_n (pc2 := 96) C 0 dX2_addPiece_95 rfl rfl ?_
        refine v_dup (pc2 := 97) C dX2_addPiece_96 rfl rfl ?_
        refine vg_X2_pieces (pc2 := 100) C lf_X2_58 dX2_addPiece_97 rfl ?_
        refine v_iconst (pc2 := 101) C dX2_addPiece_100 ki_1 rfl ?_
        refine v_iadd (pc2 := 102) C dX2_addPiece_101 rfl ?_
        refine vp_X2_pieces (pc2 := 105) C lf_X2_58 dX2_addPiece_102 rfl ?_
        exact r_vS C E hres dX2_addPiece_105
      · have hres := (if_neg h37).symm.trans hres
        refine v_aload_n (pc2 := 42) C 0 dX2_addPiece_41 rfl rfl ?_
        refine vg_X2_from (pc2 := 45) C lf_X2_18 dX2_addPiece_42 rfl ?_
        refine v_iload (pc2 := 47) C 3 dX2_addPiece_45 rfl rfl ?_
        refine v_aload_n (pc2 := 48) C 0 dX2_addPiece_47 rfl rfl ?_
        refine vg_X2_from (pc2 := 51) C lf_X2_18 dX2_addPiece_48 rfl ?_
        refine v_iload (pc2 := 53) C 3 dX2_addPiece_51 rfl rfl ?_
        refine v_iconst (pc2 := 54) C dX2_addPiece_53 ki_1 rfl ?_
        refine v_isub (pc2 := 55) C dX2_addPiece_54 rfl ?_
        refine al25 (pc2 := 56) C (hd.pin h24) dX2_addPiece_55 rfl ?_
        refine as25 (pc2 := 57) C hd.in dX2_addPiece_56 rfl ?_
        refine v_aload_n (pc2 := 58) C 0 dX2_addPiece_57 rfl rfl ?_
        refine vg_X2_to (pc2 := 61) C lf_X2_21 dX2_addPiece_58 rfl ?_
        refine v_iload (pc2 := 63) C 3 dX2_addPiece_61 rfl rfl ?_
        refine v_aload_n (pc2 := 64) C 0 dX2_addPiece_63 rfl rfl ?_
        refine vg_X2_to (pc2 := 67) C lf_X2_21 dX2_addPiece_64 rfl ?_
        refine v_iload (pc2 := 69) C 3 dX2_addPiece_67 rfl rfl ?_
        refine v_iconst (pc2 := 70) C dX2_addPiece_69 ki_1 rfl ?_
        refine v_isub (pc2 := 71) C dX2_addPiece_70 rfl ?_
        refine al26 (pc2 := 72) C (hd.pin h24) dX2_addPiece_71 rfl ?_
        refine as26 (pc2 := 73) C hd.in dX2_addPiece_72 rfl ?_
        refine v_iinc (pc2 := 76) (lv2 := [(5, _), (0, _), (1, _), (3, _)]) C 3 dX2_addPiece_73 rfl ki_m1 (by decide) rfl rfl ?_
        refine v_goto (pc2 := 22) C dX2_addPiece_76 rfl ?_
        exact v_lv [1, 2, 3, 0] rfl (ih _ _ (hd.step h24) hres)
def f2_addPiece (σ : St) (a1 : Int64) (a2 : Int64) : St :=
  (if a2 ≤ a1 then σ else (if (gI σ 13) < (10 : Int32) then (f2_addPiece_L a1 a2 11 σ (gI σ 13)) else σ))
set_option maxHeartbeats 4000000 in
set_option maxRecDepth 100000 in
theorem bf2_addPiece {X : CX} {Λ : LY} (C : OK X Λ cX2_addPiece 6 RX2 0 0) {res : St} (E : EN X Λ none none res) (σ : St) (a1 : Int64) (a2 : Int64) (hs : Safe σ) (hres : (f2_addPiece σ a1 a2) = res) : VV X Λ 6 0 [(0, .ref (adr Λ 10)), (1, .long (a1)), (3, .long (a2))] [] σ := by
  unfold f2_addPiece at hres
  have hq := hs.pcs
  refine v_lload_n (pc2 := 1) C 1 dX2_addPiece_0 rfl rfl ?_
  refine v_lload_n (pc2 := 2) C 2 dX2_addPiece_1 rfl rfl ?_
  refine v_lcge (pc2 := 15) (pc3 := 6) C dX2_addPiece_2 dX2_addPiece_3 rfl rfl (fun h2 => ?_) (fun h2 => ?_)
  · have hres := (if_pos h2).symm.trans hres
    exact r_vS C E hres dX2_addPiece_15
  · have hres := (if_neg h2).symm.trans hres
    refine v_aload_n (pc2 := 7) C 0 dX2_addPiece_6 rfl rfl ?_
    refine vg_X2_pieces (pc2 := 10) C lf_X2_58 dX2_addPiece_7 rfl ?_
    refine v_bipush (pc2 := 12) C dX2_addPiece_10 kb_10 rfl ?_
    refine v_icmplt (pc2 := 16) (pc3 := 15) C dX2_addPiece_12 rfl rfl (fun h12 => ?_) (fun h12 => ?_)
    · have hres := (if_pos h12).symm.trans hres
      have t12 := t_lt h12 rfl lit_10
      refine v_aload_n (pc2 := 17) C 0 dX2_addPiece_16 rfl rfl ?_
      refine vg_X2_pieces (pc2 := 20) C lf_X2_58 dX2_addPiece_17 rfl ?_
      refine v_istore (pc2 := 22) (lv2 := [(5, _), (0, _), (1, _), (3, _)]) C dX2_addPiece_20 (by decide) rfl rfl ?_
      exact v_lv [1, 2, 3, 0] rfl (bf2_addPiece_L C E _ _ 11 _ _ ⟨by omega, by omega, by omega⟩  hres)
    · have hres := (if_neg h12).symm.trans hres
      have t12 := t_nlt h12 rfl lit_10
      exact r_vS C E hres dX2_addPiece_15
theorem mX2_addPiece (l : Launch) (Λ : LY) (σ : St) (a1 : Int64) (a2 : Int64) (hs : Safe σ) : CT l Λ yX2_addPiece cX2_addPiece 6 none 0 0 [.ref (adr Λ 10), .long (a1), .long (a2)] σ none (f2_addPiece σ a1 a2) := by
  refine CT_of (by decide +kernel) (Nat.le_of_ble_eq_true rfl) ?_
  intro X hX C E
  obtain ⟨res, hres⟩ : ∃ r, (f2_addPiece σ a1 a2) = r := ⟨_, rfl⟩
  rw [hres] at E
  exact bf2_addPiece C E _ _ _  hs hres
theorem sX2_put {σ : St} {a : Int32} {i : Nat} {b c d : Int32} (h : Safe σ) : Safe (f2_put σ a i b c d) := sf_B (sf_B h)
theorem sX2_addPiece_L {a b : Int64} : ∀ (n : Nat) (σ : St) (j : Int32), Safe σ → (gI σ 13).toInt < 10 → Safe (f2_addPiece_L a b n σ j) := by
  intro n
  induction n with
  | zero => intro σ j h hp; exact h
  | succ n ih =>
    intro σ j h hp
    have h13 : 0 ≤ (gI σ 13 + (1 : Int32)).toInt ∧ (gI σ 13 + (1 : Int32)).toInt ≤ 10 := by
      have := h.pcs
      rw [i_add1 (b := 10) hp (by omega)]; omega
    rw [f2_addPiece_L]
    repeat' split
    all_goals first | exact sf_I13 h13 (sf_B (sf_B h)) | exact ih _ _ (sf_B (sf_B h)) hp
theorem sX2_addPiece {σ : St} {a b : Int64} (h : Safe σ) : Safe (f2_addPiece σ a b) := by
  unfold f2_addPiece
  repeat' split
  all_goals first | exact h | (rename_i h1 h2; exact sX2_addPiece_L _ _ _ h (by have := t_lt h2 rfl lit_10; omega)) | (rename_i h1; exact sX2_addPiece_L _ _ _ h (by have := t_lt h1 rfl lit_10; omega))
def f2_cast_L (a1 : Int32) (a3 : Int32) : Nat → St → Int32 → St
  | 0, σ, _ => (σ)
  | n + 1, σ, j => (if a3 < j then σ else (f2_cast_L a1 a3 n (f2_addPiece σ (f2_shadeStart σ a1 j) (f2_shadeEnd σ a1 j)) (j + (1 : Int32))))
set_option maxHeartbeats 4000000 in
set_option maxRecDepth 100000 in
theorem bf2_cast_L {X : CX} {Λ : LY} (C : OK X Λ cX2_cast 5 RX2 2 45) {res : St} (E : EN X Λ none none res) (a1 : Int32) (a3 : Int32)  : ∀ (n : Nat) (σ : St) (j : Int32), (hs : Safe σ) → (h1 : vp_in a1 10) → (hr : RG a3 j n) → (f2_cast_L a1 a3 n σ j) = res → VV X Λ 5 8 [(0, .ref (adr Λ 10)), (1, .int (a1)), (3, .int (a3)), (4, .int (j))] [] σ := by
  intro n
  induction n with
  | zero => intro σ j hs h1 hr hres; exact absurd hr (fun h => h.z)
  | succ n ih =>
    intro σ j hs h1 hr hres
    rw [f2_cast_L] at hres
    refine v_iload (pc2 := 10) C 3 dX2_cast_8 rfl rfl ?_
    refine v_iload_n (pc2 := 11) C 2 dX2_cast_10 rfl rfl ?_
    refine v_icmpgt (pc2 := 38) (pc3 := 14) C dX2_cast_11 rfl rfl (fun h11 => ?_) (fun h11 => ?_)
    · have hres := (if_pos h11).symm.trans hres
      exact r_vS C E hres dX2_cast_38
    · have hres := (if_neg h11).symm.trans hres
      refine v_aload_n (pc2 := 15) C 0 dX2_cast_14 rfl rfl ?_
      refine v_aload_n (pc2 := 16) C 0 dX2_cast_15 rfl rfl ?_
      refine v_iload_n (pc2 := 17) C 1 dX2_cast_16 rfl rfl ?_
      refine v_iload (pc2 := 19) C 3 dX2_cast_17 rfl rfl ?_
      refine v_cVl (pc2 := 22) C kc_X2_51 (mX2_shadeStart (xl X) Λ _ _ _ h1 (hr.in h11)) (wd10 Λ _) rfl (by decide) rfl rfl (Nat.le_of_ble_eq_true rfl) dX2_cast_19 rfl ?_
      refine v_aload_n (pc2 := 23) C 0 dX2_cast_22 rfl rfl ?_
      refine v_iload_n (pc2 := 24) C 1 dX2_cast_23 rfl rfl ?_
      refine v_iload (pc2 := 26) C 3 dX2_cast_24 rfl rfl ?_
      refine v_cVl (pc2 := 29) C kc_X2_55 (mX2_shadeEnd (xl X) Λ _ _ _ h1 (hr.in h11)) (wd10 Λ _) rfl (by decide) rfl rfl (Nat.le_of_ble_eq_true rfl) dX2_cast_26 rfl ?_
      refine v_cVv (pc2 := 32) C kc_X2_61 (mX2_addPiece (xl X) Λ _ _ _ hs) (wd10 Λ _) rfl (by decide) rfl rfl (Nat.le_of_ble_eq_true rfl) dX2_cast_29 rfl ?_
      refine v_iinc (pc2 := 35) (lv2 := [(4, _), (0, _), (1, _), (3, _)]) C 3 dX2_cast_32 rfl ki_1 (by decide) rfl rfl ?_
      refine v_goto (pc2 := 8) C dX2_cast_35 rfl ?_
      exact v_lv [1, 2, 3, 0] rfl (ih _ _ (sX2_addPiece hs) h1 (hr.step h11) hres)
def f2_cast (σ : St) (a1 : Int32) (a2 : Int32) (a3 : Int32) : St :=
  (f2_cast_L a1 a3 11 (uI σ 13 (0 : Int32)) a2)
set_option maxHeartbeats 4000000 in
set_option maxRecDepth 100000 in
theorem bf2_cast {X : CX} {Λ : LY} (C : OK X Λ cX2_cast 5 RX2 2 45) {res : St} (E : EN X Λ none none res) (σ : St) (a1 : Int32) (a2 : Int32) (a3 : Int32) (hs : Safe σ) (h1 : vp_in a1 10) (h2 : 0 ≤ a2.toInt ∧ a2.toInt ≤ 10) (h3 : a3.toInt ≤ 9) (hres : (f2_cast σ a1 a2 a3) = res) : VV X Λ 5 0 [(0, .ref (adr Λ 10)), (1, .int (a1)), (2, .int (a2)), (3, .int (a3))] [] σ := by
  unfold f2_cast at hres
  refine v_aload_n (pc2 := 1) C 0 dX2_cast_0 rfl rfl ?_
  refine v_iconst (pc2 := 2) C dX2_cast_1 ki_0 rfl ?_
  refine vp_X2_pieces (pc2 := 5) C lf_X2_58 dX2_cast_2 rfl ?_
  refine v_iload_n (pc2 := 6) C 2 dX2_cast_5 rfl rfl ?_
  refine v_istore (pc2 := 8) (lv2 := [(4, _), (0, _), (1, _), (2, _), (3, _)]) C dX2_cast_6 (by decide) rfl rfl ?_
  exact v_lv [1, 2, 4, 0] rfl (bf2_cast_L C E _ _ 11 _ _ (sf_I13 (by rw [lit_0]; decide) hs) h1 ⟨h2.1, h2.2, h3, by omega, by omega⟩  hres)
theorem mX2_cast (l : Launch) (Λ : LY) (σ : St) (a1 : Int32) (a2 : Int32) (a3 : Int32) (hs : Safe σ) (h1 : vp_in a1 10) (h2 : 0 ≤ a2.toInt ∧ a2.toInt ≤ 10) (h3 : a3.toInt ≤ 9) : CT l Λ yX2_cast cX2_cast 5 none 2 45 [.ref (adr Λ 10), .int (a1), .int (a2), .int (a3)] σ none (f2_cast σ a1 a2 a3) := by
  refine CT_of (by decide +kernel) (Nat.le_of_ble_eq_true rfl) ?_
  intro X hX C E
  obtain ⟨res, hres⟩ : ∃ r, (f2_cast σ a1 a2 a3) = r := ⟨_, rfl⟩
  rw [hres] at E
  exact bf2_cast C E _ _ _ _  hs h1 h2 h3 hres
theorem sX2_cast_L {a b : Int32} : ∀ (n : Nat) (σ : St) (j : Int32), Safe σ → Safe (f2_cast_L a b n σ j) := by
  intro n
  induction n with
  | zero => intro σ j h; exact h
  | succ n ih =>
    intro σ j h
    rw [f2_cast_L]
    split
    · exact h
    · exact ih _ _ (sX2_addPiece h)
theorem sX2_cast {σ : St} {a b c : Int32} (h : Safe σ) : Safe (f2_cast σ a b c) := sX2_cast_L _ _ _ (sf_I13 (by rw [lit_0]; decide) h)
def f2_shaded_L (σ : St) : Nat → Int64 → Int64 → Int32 → Int64
  | 0, _, _, _ => (0)
  | n + 1, s, r, j => (if (gI σ 13) ≤ j then s else (if (gB σ 7 (Int32.toNatClampNeg j)) ≤ (if (gB σ 6 (Int32.toNatClampNeg j)) < r then r else (gB σ 6 (Int32.toNatClampNeg j))) then (f2_shaded_L σ n s r (j + (1 : Int32))) else (f2_shaded_L σ n (s + ((gB σ 7 (Int32.toNatClampNeg j)) - (if (gB σ 6 (Int32.toNatClampNeg j)) < r then r else (gB σ 6 (Int32.toNatClampNeg j))))) (gB σ 7 (Int32.toNatClampNeg j)) (j + (1 : Int32)))))
set_option maxHeartbeats 4000000 in
set_option maxRecDepth 100000 in
theorem bf2_shaded_L {X : CX} {Λ : LY} (C : OK X Λ cX2_shaded 8 RX2 1 23) {σ : St} {res : Int64} (E : EN X Λ (some .long) (some (.long res)) σ)  : ∀ (n : Nat) (s : Int64) (r : Int64) (j : Int32), (hs : Safe σ) → (hu : UP 10 j n) → (f2_shaded_L σ n s r j) = res → VV X Λ 8 21 [(0, .ref (adr Λ 10)), (1, .long (s)), (3, .long (r)), (5, .int (j))] [] σ := by
  intro n
  induction n with
  | zero => intro s r j hs hu hres; exact absurd hu (fun h => h.z)
  | succ n ih =>
    intro s r j hs hu hres
    rw [f2_shaded_L] at hres
    refine v_iload (pc2 := 23) C 3 dX2_shaded_21 rfl rfl ?_
    refine v_aload_n (pc2 := 24) C 0 dX2_shaded_23 rfl rfl ?_
    refine vg_X2_pieces (pc2 := 27) C lf_X2_58 dX2_shaded_24 rfl ?_
    refine v_icmpge (pc2 := 83) (pc3 := 30) C dX2_shaded_27 rfl rfl (fun h27 => ?_) (fun h27 => ?_)
    · have hres := (if_pos h27).symm.trans hres
      refine v_lload_n (pc2 := 84) C 1 dX2_shaded_83 rfl rfl ?_
      exact r_lP C E hres dX2_shaded_84
    · have hres := (if_neg h27).symm.trans hres
      refine v_lload_n (pc2 := 31) C 2 dX2_shaded_30 rfl rfl ?_
      refine v_aload_n (pc2 := 32) C 0 dX2_shaded_31 rfl rfl ?_
      refine vg_X2_from (pc2 := 35) C lf_X2_18 dX2_shaded_32 rfl ?_
      refine v_iload (pc2 := 37) C 3 dX2_shaded_35 rfl rfl ?_
      refine al25 (pc2 := 38) C (hu.in h27 hs.pcs.2) dX2_shaded_37 rfl ?_
      refine v_lmax (pc2 := 41) C ml_X2_69 ms_lmax mi_Math mc_lmax (by decide) (Nat.le_of_ble_eq_true rfl) dX2_shaded_38 rfl ?_
      refine v_lstore (pc2 := 43) (lv2 := [(6, _), (0, _), (1, _), (3, _), (5, _)]) C dX2_shaded_41 (by decide) rfl rfl ?_
      refine v_aload_n (pc2 := 44) C 1 dX2_shaded_43 rfl rfl ?_
      refine vg_X2_to (pc2 := 47) C lf_X2_21 dX2_shaded_44 rfl ?_
      refine v_iload (pc2 := 49) C 4 dX2_shaded_47 rfl rfl ?_
      refine al26 (pc2 := 50) C (hu.in h27 hs.pcs.2) dX2_shaded_49 rfl ?_
      refine v_lload (pc2 := 52) C 0 dX2_shaded_50 rfl rfl ?_
      refine v_lcle (pc2 := 77) (pc3 := 56) C dX2_shaded_52 dX2_shaded_53 rfl rfl (fun h52 => ?_) (fun h52 => ?_)
      · have hres := (if_pos h52).symm.trans hres
        refine v_iinc (pc2 := 80) (lv2 := [(5, _), (6, _), (0, _), (1, _), (3, _)]) C 4 dX2_shaded_77 rfl ki_1 (by decide) rfl rfl ?_
        refine v_goto (pc2 := 21) C dX2_shaded_80 rfl ?_
        exact v_lv [2, 3, 4, 0] rfl (ih _ _ _ hs (hu.step h27 hs.pcs.2 (by decide)) hres)
      · have hres := (if_neg h52).symm.trans hres
        refine v_lload_n (pc2 := 57) C 2 dX2_shaded_56 rfl rfl ?_
        refine v_aload_n (pc2 := 58) C 1 dX2_shaded_57 rfl rfl ?_
        refine vg_X2_to (pc2 := 61) C lf_X2_21 dX2_shaded_58 rfl ?_
        refine v_iload (pc2 := 63) C 4 dX2_shaded_61 rfl rfl ?_
        refine al26 (pc2 := 64) C (hu.in h27 hs.pcs.2) dX2_shaded_63 rfl ?_
        refine v_lload (pc2 := 66) C 0 dX2_shaded_64 rfl rfl ?_
        refine v_lsub (pc2 := 67) C dX2_shaded_66 rfl ?_
        refine v_ladd (pc2 := 68) C dX2_shaded_67 rfl ?_
        refine v_lstore_n (pc2 := 69) (lv2 := [(1, _), (6, _), (0, _), (3, _), (5, _)]) C dX2_shaded_68 (by decide) rfl rfl ?_
        refine v_aload_n (pc2 := 70) C 2 dX2_shaded_69 rfl rfl ?_
        refine vg_X2_to (pc2 := 73) C lf_X2_21 dX2_shaded_70 rfl ?_
        refine v_iload (pc2 := 75) C 4 dX2_shaded_73 rfl rfl ?_
        refine al26 (pc2 := 76) C (hu.in h27 hs.pcs.2) dX2_shaded_75 rfl ?_
        refine v_lstore_n (pc2 := 77) (lv2 := [(3, _), (1, _), (6, _), (0, _), (5, _)]) C dX2_shaded_76 (by decide) rfl rfl ?_
        refine v_iinc (pc2 := 80) (lv2 := [(5, _), (3, _), (1, _), (6, _), (0, _)]) C 4 dX2_shaded_77 rfl ki_1 (by decide) rfl rfl ?_
        refine v_goto (pc2 := 21) C dX2_shaded_80 rfl ?_
        exact v_lv [4, 2, 1, 0] rfl (ih _ _ _ hs (hu.step h27 hs.pcs.2 (by decide)) hres)
def f2_shaded (σ : St) : Int64 :=
  (if (gI σ 13) = (0 : Int32) then (0 : Int64) else (f2_shaded_L σ 11 (0 : Int64) (gB σ 6 (Int32.toNatClampNeg (0 : Int32))) (0 : Int32)))
set_option maxHeartbeats 4000000 in
set_option maxRecDepth 100000 in
theorem bf2_shaded {X : CX} {Λ : LY} (C : OK X Λ cX2_shaded 8 RX2 1 23) {σ : St} {res : Int64} (E : EN X Λ (some .long) (some (.long res)) σ) (hs : Safe σ) (hres : (f2_shaded σ) = res) : VV X Λ 8 0 [(0, .ref (adr Λ 10))] [] σ := by
  unfold f2_shaded at hres
  refine v_aload_n (pc2 := 1) C 0 dX2_shaded_0 rfl rfl ?_
  refine vg_X2_pieces (pc2 := 4) C lf_X2_58 dX2_shaded_1 rfl ?_
  refine v_ifne (pc2 := 9) (pc3 := 7) C dX2_shaded_4 rfl rfl (fun h4 => ?_) (fun h4 => ?_)
  · have hres := (if_neg h4).symm.trans hres
    refine v_lconst (pc2 := 10) C dX2_shaded_9 kl_0 rfl ?_
    refine v_lstore_n (pc2 := 11) (lv2 := [(1, _), (0, _)]) C dX2_shaded_10 (by decide) rfl rfl ?_
    refine v_aload_n (pc2 := 12) C 1 dX2_shaded_11 rfl rfl ?_
    refine vg_X2_from (pc2 := 15) C lf_X2_18 dX2_shaded_12 rfl ?_
    refine v_iconst (pc2 := 16) C dX2_shaded_15 ki_0 rfl ?_
    refine al25 (pc2 := 17) C (in_lit (by decide +kernel)) dX2_shaded_16 rfl ?_
    refine v_lstore_n (pc2 := 18) (lv2 := [(3, _), (1, _), (0, _)]) C dX2_shaded_17 (by decide) rfl rfl ?_
    refine v_iconst (pc2 := 19) C dX2_shaded_18 ki_0 rfl ?_
    refine v_istore (pc2 := 21) (lv2 := [(5, _), (3, _), (1, _), (0, _)]) C dX2_shaded_19 (by decide) rfl rfl ?_
    exact v_lv [3, 2, 1, 0] rfl (bf2_shaded_L C E  11 _ _ _ hs UP.start  hres)
  · have hres := (if_pos h4).symm.trans hres
    refine v_lconst (pc2 := 8) C dX2_shaded_7 kl_0 rfl ?_
    exact r_lP C E hres dX2_shaded_8
theorem mX2_shaded (l : Launch) (Λ : LY) (σ : St) (hs : Safe σ) : CT l Λ yX2_shaded cX2_shaded 8 (some .long) 1 23 [.ref (adr Λ 10)] σ (some (.long (f2_shaded σ))) σ := by
  refine CT_of (by decide +kernel) (Nat.le_of_ble_eq_true rfl) ?_
  intro X hX C E
  obtain ⟨res, hres⟩ : ∃ r, (f2_shaded σ) = r := ⟨_, rfl⟩
  rw [hres] at E
  exact bf2_shaded C E   hs hres
def f2_darkGroups_I (σ : St) (q : Int32) (bg : Int64) (sp : Int64) : Nat → Int32 → Int32 → Int32
  | 0, _, _ => (0)
  | n + 1, b, j => (if (gI σ 13) ≤ j then b else (if sp ≤ ((3 : Int64) * (gB σ 6 (Int32.toNatClampNeg j))) then (f2_darkGroups_I σ q bg sp n b (j + (1 : Int32))) else (if ((3 : Int64) * (gB σ 7 (Int32.toNatClampNeg j))) ≤ bg then (f2_darkGroups_I σ q bg sp n b (j + (1 : Int32))) else (f2_darkGroups_I σ q bg sp n (b ||| ((1 : Int32) <<< (q &&& 31))) (j + (1 : Int32))))))
set_option maxHeartbeats 4000000 in
set_option maxRecDepth 100000 in
theorem bf2_darkGroups_I {X : CX} {Λ : LY} (C : OK X Λ cX2_darkGroups 11 RX2 0 0) (σ : St) {out : Int32} (a1 : Int32) (th : Int64) (q : Int32) (bg : Int64) (sp : Int64) (k : VV X Λ 11 111 [(0, .ref (adr Λ 10)), (1, .int (a1)), (2, .long (th)), (4, .int (out)), (5, .int (q))] [] (σ)) : ∀ (n : Nat) (b : Int32) (j : Int32), (hs : Safe σ) → (hu : UP 10 j n) → (f2_darkGroups_I σ q bg sp n b j) = out → VV X Λ 11 53 [(0, .ref (adr Λ 10)), (1, .int (a1)), (2, .long (th)), (4, .int (b)), (5, .int (q)), (6, .long (bg)), (8, .long (sp)), (10, .int (j))] [] σ := by
  intro n
  induction n with
  | zero => intro b j hs hu hres; exact absurd hu (fun h => h.z)
  | succ n ih =>
    intro b j hs hu hres
    rw [f2_darkGroups_I] at hres
    refine v_iload (pc2 := 55) C 7 dX2_darkGroups_53 rfl rfl ?_
    refine v_aload_n (pc2 := 56) C 0 dX2_darkGroups_55 rfl rfl ?_
    refine vg_X2_pieces (pc2 := 59) C lf_X2_58 dX2_darkGroups_56 rfl ?_
    refine v_icmpge (pc2 := 111) (pc3 := 62) C dX2_darkGroups_59 rfl rfl (fun h59 => ?_) (fun h59 => ?_)
    · have hres := (if_pos h59).symm.trans hres
      subst hres
      exact v_lv [0, 1, 2, 3, 4] rfl k
    · have hres := (if_neg h59).symm.trans hres
      refine v_ldc2 (pc2 := 65) C lc_X2_72 dX2_darkGroups_62 rfl ?_
      refine v_aload_n (pc2 := 66) C 0 dX2_darkGroups_65 rfl rfl ?_
      refine vg_X2_from (pc2 := 69) C lf_X2_18 dX2_darkGroups_66 rfl ?_
      refine v_iload (pc2 := 71) C 7 dX2_darkGroups_69 rfl rfl ?_
      refine al25 (pc2 := 72) C (hu.in h59 hs.pcs.2) dX2_darkGroups_71 rfl ?_
      refine v_lmul (pc2 := 73) C dX2_darkGroups_72 rfl ?_
      refine v_lload (pc2 := 75) C 6 dX2_darkGroups_73 rfl rfl ?_
      refine v_lcge (pc2 := 105) (pc3 := 79) C dX2_darkGroups_75 dX2_darkGroups_76 rfl rfl (fun h75 => ?_) (fun h75 => ?_)
      · have hres := (if_pos h75).symm.trans hres
        refine v_iinc (pc2 := 108) (lv2 := [(10, _), (0, _), (1, _), (2, _), (4, _), (5, _), (6, _), (8, _)]) C 7 dX2_darkGroups_105 rfl ki_1 (by decide) rfl rfl ?_
        refine v_goto (pc2 := 53) C dX2_darkGroups_108 rfl ?_
        exact v_lv [1, 2, 3, 4, 5, 6, 7, 0] rfl (ih _ _ hs (hu.step h59 hs.pcs.2 (by decide)) hres)
      · have hres := (if_neg h75).symm.trans hres
        refine v_ldc2 (pc2 := 82) C lc_X2_72 dX2_darkGroups_79 rfl ?_
        refine v_aload_n (pc2 := 83) C 0 dX2_darkGroups_82 rfl rfl ?_
        refine vg_X2_to (pc2 := 86) C lf_X2_21 dX2_darkGroups_83 rfl ?_
        refine v_iload (pc2 := 88) C 7 dX2_darkGroups_86 rfl rfl ?_
        refine al26 (pc2 := 89) C (hu.in h59 hs.pcs.2) dX2_darkGroups_88 rfl ?_
        refine v_lmul (pc2 := 90) C dX2_darkGroups_89 rfl ?_
        refine v_lload (pc2 := 92) C 5 dX2_darkGroups_90 rfl rfl ?_
        refine v_lcle (pc2 := 105) (pc3 := 96) C dX2_darkGroups_92 dX2_darkGroups_93 rfl rfl (fun h92 => ?_) (fun h92 => ?_)
        · have hres := (if_pos h92).symm.trans hres
          refine v_iinc (pc2 := 108) (lv2 := [(10, _), (0, _), (1, _), (2, _), (4, _), (5, _), (6, _), (8, _)]) C 7 dX2_darkGroups_105 rfl ki_1 (by decide) rfl rfl ?_
          refine v_goto (pc2 := 53) C dX2_darkGroups_108 rfl ?_
          exact v_lv [1, 2, 3, 4, 5, 6, 7, 0] rfl (ih _ _ hs (hu.step h59 hs.pcs.2 (by decide)) hres)
        · have hres := (if_neg h92).symm.trans hres
          refine v_iload (pc2 := 98) C 3 dX2_darkGroups_96 rfl rfl ?_
          refine v_iconst (pc2 := 99) C dX2_darkGroups_98 ki_1 rfl ?_
          refine v_iload (pc2 := 101) C 4 dX2_darkGroups_99 rfl rfl ?_
          refine v_ishl (pc2 := 102) C dX2_darkGroups_101 rfl ?_
          refine v_ior (pc2 := 103) C dX2_darkGroups_102 rfl ?_
          refine v_istore (pc2 := 105) (lv2 := [(4, _), (0, _), (1, _), (2, _), (5, _), (6, _), (8, _), (10, _)]) C dX2_darkGroups_103 (by decide) rfl rfl ?_
          refine v_iinc (pc2 := 108) (lv2 := [(10, _), (4, _), (0, _), (1, _), (2, _), (5, _), (6, _), (8, _)]) C 7 dX2_darkGroups_105 rfl ki_1 (by decide) rfl rfl ?_
          refine v_goto (pc2 := 53) C dX2_darkGroups_108 rfl ?_
          exact v_lv [2, 3, 4, 1, 5, 6, 7, 0] rfl (ih _ _ hs (hu.step h59 hs.pcs.2 (by decide)) hres)
def f2_darkGroups_L (σ : St) (a1 : Int32) (th : Int64) : Nat → Int32 → Int32 → Int32
  | 0, _, _ => (0)
  | n + 1, b, q => (if (3 : Int32) ≤ q then b else (f2_darkGroups_L σ a1 th n (f2_darkGroups_I σ q (((3 : Int64) * (gB σ 4 (Int32.toNatClampNeg a1))) + ((Int32.toInt64 q) * th)) ((((3 : Int64) * (gB σ 4 (Int32.toNatClampNeg a1))) + ((Int32.toInt64 q) * th)) + th) 11 b (0 : Int32)) (q + (1 : Int32))))
set_option maxHeartbeats 4000000 in
set_option maxRecDepth 100000 in
theorem bf2_darkGroups_L {X : CX} {Λ : LY} (C : OK X Λ cX2_darkGroups 11 RX2 0 0) {σ : St} {res : Int32} (E : EN X Λ (some .int) (some (.int res)) σ) (a1 : Int32) (th : Int64)  : ∀ (n : Nat) (b : Int32) (q : Int32), (hs : Safe σ) → (h1 : vp_in a1 10) → (hv : UP 3 q n) → (f2_darkGroups_L σ a1 th n b q) = res → VV X Λ 11 20 [(0, .ref (adr Λ 10)), (1, .int (a1)), (2, .long (th)), (4, .int (b)), (5, .int (q))] [] σ := by
  intro n
  induction n with
  | zero => intro b q hs h1 hv hres; exact absurd hv (fun h => h.z)
  | succ n ih =>
    intro b q hs h1 hv hres
    rw [f2_darkGroups_L] at hres
    refine v_iload (pc2 := 22) C 4 dX2_darkGroups_20 rfl rfl ?_
    refine v_iconst (pc2 := 23) C dX2_darkGroups_22 ki_3 rfl ?_
    refine v_icmpge (pc2 := 117) (pc3 := 26) C dX2_darkGroups_23 rfl rfl (fun h23 => ?_) (fun h23 => ?_)
    · have hres := (if_pos h23).symm.trans hres
      refine v_iload (pc2 := 119) C 3 dX2_darkGroups_117 rfl rfl ?_
      exact r_iP C E hres dX2_darkGroups_119
    · have hres := (if_neg h23).symm.trans hres
      refine v_ldc2 (pc2 := 29) C lc_X2_72 dX2_darkGroups_26 rfl ?_
      refine v_aload_n (pc2 := 30) C 0 dX2_darkGroups_29 rfl rfl ?_
      refine vg_X2_start (pc2 := 33) C lf_X2_9 dX2_darkGroups_30 rfl ?_
      refine v_iload_n (pc2 := 34) C 1 dX2_darkGroups_33 rfl rfl ?_
      refine al23 (pc2 := 35) C h1 dX2_darkGroups_34 rfl ?_
      refine v_lmul (pc2 := 36) C dX2_darkGroups_35 rfl ?_
      refine v_iload (pc2 := 38) C 4 dX2_darkGroups_36 rfl rfl ?_
      refine v_i2l (pc2 := 39) C dX2_darkGroups_38 rfl ?_
      refine v_lload_n (pc2 := 40) C 2 dX2_darkGroups_39 rfl rfl ?_
      refine v_lmul (pc2 := 41) C dX2_darkGroups_40 rfl ?_
      refine v_ladd (pc2 := 42) C dX2_darkGroups_41 rfl ?_
      refine v_lstore (pc2 := 44) (lv2 := [(6, _), (0, _), (1, _), (2, _), (4, _), (5, _)]) C dX2_darkGroups_42 (by decide) rfl rfl ?_
      refine v_lload (pc2 := 46) C 0 dX2_darkGroups_44 rfl rfl ?_
      refine v_lload_n (pc2 := 47) C 3 dX2_darkGroups_46 rfl rfl ?_
      refine v_ladd (pc2 := 48) C dX2_darkGroups_47 rfl ?_
      refine v_lstore (pc2 := 50) (lv2 := [(8, _), (6, _), (0, _), (1, _), (2, _), (4, _), (5, _)]) C dX2_darkGroups_48 (by decide) rfl rfl ?_
      refine v_iconst (pc2 := 51) C dX2_darkGroups_50 ki_0 rfl ?_
      refine v_istore (pc2 := 53) (lv2 := [(10, _), (8, _), (6, _), (0, _), (1, _), (2, _), (4, _), (5, _)]) C dX2_darkGroups_51 (by decide) rfl rfl ?_
      refine v_lv [3, 4, 5, 6, 7, 2, 1, 0] rfl ?_
      refine bf2_darkGroups_I C σ a1 th q (((3 : Int64) * (gB σ 4 (Int32.toNatClampNeg a1))) + ((Int32.toInt64 q) * th)) ((((3 : Int64) * (gB σ 4 (Int32.toNatClampNeg a1))) + ((Int32.toInt64 q) * th)) + th) (out := (f2_darkGroups_I σ q (((3 : Int64) * (gB σ 4 (Int32.toNatClampNeg a1))) + ((Int32.toInt64 q) * th)) ((((3 : Int64) * (gB σ 4 (Int32.toNatClampNeg a1))) + ((Int32.toInt64 q) * th)) + th) 11 b (0 : Int32))) ?_ 11 b (0 : Int32) hs UP.start rfl
      refine v_iinc (pc2 := 114) (lv2 := [(5, _), (0, _), (1, _), (2, _), (4, _)]) C 4 dX2_darkGroups_111 rfl ki_1 (by decide) rfl rfl ?_
      refine v_goto (pc2 := 20) C dX2_darkGroups_114 rfl ?_
      exact v_lv [1, 2, 3, 4, 0] rfl (ih _ _ hs h1 (hv.step h23 (by rw [lit_3]; decide) (by decide)) hres)
def f2_darkGroups (σ : St) (a1 : Int32) : Int32 :=
  (f2_darkGroups_L σ a1 ((gB σ 5 (Int32.toNatClampNeg a1)) - (gB σ 4 (Int32.toNatClampNeg a1))) 4 (0 : Int32) (0 : Int32))
set_option maxHeartbeats 4000000 in
set_option maxRecDepth 100000 in
theorem bf2_darkGroups {X : CX} {Λ : LY} (C : OK X Λ cX2_darkGroups 11 RX2 0 0) {σ : St} {res : Int32} (E : EN X Λ (some .int) (some (.int res)) σ) (a1 : Int32) (hs : Safe σ) (h1 : vp_in a1 10) (hres : (f2_darkGroups σ a1) = res) : VV X Λ 11 0 [(0, .ref (adr Λ 10)), (1, .int (a1))] [] σ := by
  unfold f2_darkGroups at hres
  refine v_aload_n (pc2 := 1) C 0 dX2_darkGroups_0 rfl rfl ?_
  refine vg_X2_end (pc2 := 4) C lf_X2_15 dX2_darkGroups_1 rfl ?_
  refine v_iload_n (pc2 := 5) C 1 dX2_darkGroups_4 rfl rfl ?_
  refine al24 (pc2 := 6) C h1 dX2_darkGroups_5 rfl ?_
  refine v_aload_n (pc2 := 7) C 0 dX2_darkGroups_6 rfl rfl ?_
  refine vg_X2_start (pc2 := 10) C lf_X2_9 dX2_darkGroups_7 rfl ?_
  refine v_iload_n (pc2 := 11) C 1 dX2_darkGroups_10 rfl rfl ?_
  refine al23 (pc2 := 12) C h1 dX2_darkGroups_11 rfl ?_
  refine v_lsub (pc2 := 13) C dX2_darkGroups_12 rfl ?_
  refine v_lstore_n (pc2 := 14) (lv2 := [(2, _), (0, _), (1, _)]) C dX2_darkGroups_13 (by decide) rfl rfl ?_
  refine v_iconst (pc2 := 15) C dX2_darkGroups_14 ki_0 rfl ?_
  refine v_istore (pc2 := 17) (lv2 := [(4, _), (2, _), (0, _), (1, _)]) C dX2_darkGroups_15 (by decide) rfl rfl ?_
  refine v_iconst (pc2 := 18) C dX2_darkGroups_17 ki_0 rfl ?_
  refine v_istore (pc2 := 20) (lv2 := [(5, _), (4, _), (2, _), (0, _), (1, _)]) C dX2_darkGroups_18 (by decide) rfl rfl ?_
  exact v_lv [3, 4, 2, 1, 0] rfl (bf2_darkGroups_L C E _ _ 4 _ _ hs h1 UP.start  hres)
theorem mX2_darkGroups (l : Launch) (Λ : LY) (σ : St) (a1 : Int32) (hs : Safe σ) (h1 : vp_in a1 10) : CT l Λ yX2_darkGroups cX2_darkGroups 11 (some .int) 0 0 [.ref (adr Λ 10), .int (a1)] σ (some (.int (f2_darkGroups σ a1))) σ := by
  refine CT_of (by decide +kernel) (Nat.le_of_ble_eq_true rfl) ?_
  intro X hX C E
  obtain ⟨res, hres⟩ : ∃ r, (f2_darkGroups σ a1) = r := ⟨_, rfl⟩
  rw [hres] at E
  exact bf2_darkGroups C E _  hs h1 hres
