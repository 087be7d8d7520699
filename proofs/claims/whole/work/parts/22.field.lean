def f0_idealStep_L (a1 : Int32) (a2 : Int32) : Nat → Int32 → Int64 → Int32 → Int32
  | 0, _, _, _ => (0)
  | n + 1, b, mo, f => (if (12 : Int32) < f then b else (if (((Int32.toInt64 (cosF (Int32.toNatClampNeg f))) * (Int32.toInt64 a2)) + ((Int32.toInt64 (sinF (Int32.toNatClampNeg f))) * (Int32.toInt64 a1))) ≤ mo then (if (((Int32.toInt64 (cosF (Int32.toNatClampNeg f))) * (Int32.toInt64 a2)) - ((Int32.toInt64 (sinF (Int32.toNatClampNeg f))) * (Int32.toInt64 a1))) ≤ mo then (f0_idealStep_L a1 a2 n b mo (f + (1 : Int32))) else (f0_idealStep_L a1 a2 n f (((Int32.toInt64 (cosF (Int32.toNatClampNeg f))) * (Int32.toInt64 a2)) - ((Int32.toInt64 (sinF (Int32.toNatClampNeg f))) * (Int32.toInt64 a1))) (f + (1 : Int32)))) else (if (((Int32.toInt64 (cosF (Int32.toNatClampNeg f))) * (Int32.toInt64 a2)) - ((Int32.toInt64 (sinF (Int32.toNatClampNeg f))) * (Int32.toInt64 a1))) ≤ (((Int32.toInt64 (cosF (Int32.toNatClampNeg f))) * (Int32.toInt64 a2)) + ((Int32.toInt64 (sinF (Int32.toNatClampNeg f))) * (Int32.toInt64 a1))) then (f0_idealStep_L a1 a2 n (-f) (((Int32.toInt64 (cosF (Int32.toNatClampNeg f))) * (Int32.toInt64 a2)) + ((Int32.toInt64 (sinF (Int32.toNatClampNeg f))) * (Int32.toInt64 a1))) (f + (1 : Int32))) else (f0_idealStep_L a1 a2 n f (((Int32.toInt64 (cosF (Int32.toNatClampNeg f))) * (Int32.toInt64 a2)) - ((Int32.toInt64 (sinF (Int32.toNatClampNeg f))) * (Int32.toInt64 a1))) (f + (1 : Int32))))))
set_option maxHeartbeats 4000000 in
set_option maxRecDepth 100000 in
theorem bf0_idealStep_L {X : CX} {Λ : LY} (C : OK X Λ cX0_idealStep 11 RX0 0 0) {σ : St} {res : Int32} (E : EN X Λ (some .int) (some (.int res)) σ) (a1 : Int32) (a2 : Int32)  : ∀ (n : Nat) (b : Int32) (mo : Int64) (f : Int32), (hf : 1 ≤ f.toInt ∧ f.toInt ≤ 13 ∧ 14 ≤ f.toInt + n) → (f0_idealStep_L a1 a2 n b mo f) = res → VV X Λ 11 16 [(0, .ref (adr Λ 1)), (1, .int (a1)), (2, .int (a2)), (3, .int (b)), (4, .long (mo)), (6, .int (f))] [] σ := by
  intro n
  induction n with
  | zero => intro b mo f hf hres; exact absurd hf (by omega)
  | succ n ih =>
    intro b mo f hf hres
    rw [f0_idealStep_L] at hres
    refine v_iload (pc2 := 18) C 5 dX0_idealStep_16 rfl rfl ?_
    refine v_bipush (pc2 := 20) C dX0_idealStep_18 kb_12 rfl ?_
    refine v_icmpgt (pc2 := 96) (pc3 := 23) C dX0_idealStep_20 rfl rfl (fun h20 => ?_) (fun h20 => ?_)
    · have hres := (if_pos h20).symm.trans hres
      have t20 := t_lt h20 lit_12 rfl
      refine v_iload_n (pc2 := 97) C 3 dX0_idealStep_96 rfl rfl ?_
      exact r_iP C E hres dX0_idealStep_97
    · have hres := (if_neg h20).symm.trans hres
      have t20 := t_nlt h20 lit_12 rfl
      refine v_cos (pc2 := 26) C (by decide +kernel) dX0_idealStep_23 rfl ?_
      refine v_iload (pc2 := 28) C 5 dX0_idealStep_26 rfl rfl ?_
      refine v_cosld (pc2 := 29) C (vin (by omega) (by omega)) dX0_idealStep_28 rfl ?_
      refine v_i2l (pc2 := 30) C dX0_idealStep_29 rfl ?_
      refine v_iload_n (pc2 := 31) C 2 dX0_idealStep_30 rfl rfl ?_
      refine v_i2l (pc2 := 32) C dX0_idealStep_31 rfl ?_
      refine v_lmul (pc2 := 33) C dX0_idealStep_32 rfl ?_
      refine v_lstore (pc2 := 35) (lv2 := [(7, _), (0, _), (1, _), (2, _), (3, _), (4, _), (6, _)]) C dX0_idealStep_33 (by decide) rfl rfl ?_
      refine v_sin (pc2 := 38) C (by decide +kernel) dX0_idealStep_35 rfl ?_
      refine v_iload (pc2 := 40) C 6 dX0_idealStep_38 rfl rfl ?_
      refine v_sinld (pc2 := 41) C (vin (by omega) (by omega)) dX0_idealStep_40 rfl ?_
      refine v_i2l (pc2 := 42) C dX0_idealStep_41 rfl ?_
      refine v_iload_n (pc2 := 43) C 2 dX0_idealStep_42 rfl rfl ?_
      refine v_i2l (pc2 := 44) C dX0_idealStep_43 rfl ?_
      refine v_lmul (pc2 := 45) C dX0_idealStep_44 rfl ?_
      refine v_lstore (pc2 := 47) (lv2 := [(9, _), (7, _), (0, _), (1, _), (2, _), (3, _), (4, _), (6, _)]) C dX0_idealStep_45 (by decide) rfl rfl ?_
      refine v_lload (pc2 := 49) C 1 dX0_idealStep_47 rfl rfl ?_
      refine v_lload (pc2 := 51) C 0 dX0_idealStep_49 rfl rfl ?_
      refine v_ladd (pc2 := 52) C dX0_idealStep_51 rfl ?_
      refine v_lload (pc2 := 54) C 6 dX0_idealStep_52 rfl rfl ?_
      refine v_lcle (pc2 := 69) (pc3 := 58) C dX0_idealStep_54 dX0_idealStep_55 rfl rfl (fun h54 => ?_) (fun h54 => ?_)
      · have hres := (if_pos h54).symm.trans hres
        refine v_lload (pc2 := 71) C 1 dX0_idealStep_69 rfl rfl ?_
        refine v_lload (pc2 := 73) C 0 dX0_idealStep_71 rfl rfl ?_
        refine v_lsub (pc2 := 74) C dX0_idealStep_73 rfl ?_
        refine v_lload (pc2 := 76) C 6 dX0_idealStep_74 rfl rfl ?_
        refine v_lcle (pc2 := 90) (pc3 := 80) C dX0_idealStep_76 dX0_idealStep_77 rfl rfl (fun h76 => ?_) (fun h76 => ?_)
        · have hres := (if_pos h76).symm.trans hres
          refine v_iinc (pc2 := 93) (lv2 := [(6, _), (9, _), (7, _), (0, _), (1, _), (2, _), (3, _), (4, _)]) C 7 dX0_idealStep_90 rfl ki_1 (by decide) rfl rfl ?_
          refine v_goto (pc2 := 16) C dX0_idealStep_93 rfl ?_
          exact v_lv [3, 4, 5, 6, 7, 0] rfl (ih _ _ _ (by rw [i_add1 (b := 13) (by omega) (by omega)]; omega) hres)
        · have hres := (if_neg h76).symm.trans hres
          refine v_lload (pc2 := 82) C 1 dX0_idealStep_80 rfl rfl ?_
          refine v_lload (pc2 := 84) C 0 dX0_idealStep_82 rfl rfl ?_
          refine v_lsub (pc2 := 85) C dX0_idealStep_84 rfl ?_
          refine v_lstore (pc2 := 87) (lv2 := [(4, _), (9, _), (7, _), (0, _), (1, _), (2, _), (3, _), (6, _)]) C dX0_idealStep_85 (by decide) rfl rfl ?_
          refine v_iload (pc2 := 89) C 7 dX0_idealStep_87 rfl rfl ?_
          refine v_istore_n (pc2 := 90) (lv2 := [(3, _), (4, _), (9, _), (7, _), (0, _), (1, _), (2, _), (6, _)]) C dX0_idealStep_89 (by decide) rfl rfl ?_
          refine v_iinc (pc2 := 93) (lv2 := [(6, _), (3, _), (4, _), (9, _), (7, _), (0, _), (1, _), (2, _)]) C 7 dX0_idealStep_90 rfl ki_1 (by decide) rfl rfl ?_
          refine v_goto (pc2 := 16) C dX0_idealStep_93 rfl ?_
          exact v_lv [5, 6, 7, 1, 2, 0] rfl (ih _ _ _ (by rw [i_add1 (b := 13) (by omega) (by omega)]; omega) hres)
      · have hres := (if_neg h54).symm.trans hres
        refine v_lload (pc2 := 60) C 1 dX0_idealStep_58 rfl rfl ?_
        refine v_lload (pc2 := 62) C 0 dX0_idealStep_60 rfl rfl ?_
        refine v_ladd (pc2 := 63) C dX0_idealStep_62 rfl ?_
        refine v_lstore (pc2 := 65) (lv2 := [(4, _), (9, _), (7, _), (0, _), (1, _), (2, _), (3, _), (6, _)]) C dX0_idealStep_63 (by decide) rfl rfl ?_
        refine v_iload (pc2 := 67) C 7 dX0_idealStep_65 rfl rfl ?_
        refine v_ineg (pc2 := 68) C dX0_idealStep_67 rfl ?_
        refine v_istore_n (pc2 := 69) (lv2 := [(3, _), (4, _), (9, _), (7, _), (0, _), (1, _), (2, _), (6, _)]) C dX0_idealStep_68 (by decide) rfl rfl ?_
        refine v_lload (pc2 := 71) C 3 dX0_idealStep_69 rfl rfl ?_
        refine v_lload (pc2 := 73) C 2 dX0_idealStep_71 rfl rfl ?_
        refine v_lsub (pc2 := 74) C dX0_idealStep_73 rfl ?_
        refine v_lload (pc2 := 76) C 1 dX0_idealStep_74 rfl rfl ?_
        refine v_lcle (pc2 := 90) (pc3 := 80) C dX0_idealStep_76 dX0_idealStep_77 rfl rfl (fun h76 => ?_) (fun h76 => ?_)
        · have hres := (if_pos h76).symm.trans hres
          refine v_iinc (pc2 := 93) (lv2 := [(6, _), (3, _), (4, _), (9, _), (7, _), (0, _), (1, _), (2, _)]) C 7 dX0_idealStep_90 rfl ki_1 (by decide) rfl rfl ?_
          refine v_goto (pc2 := 16) C dX0_idealStep_93 rfl ?_
          exact v_lv [5, 6, 7, 1, 2, 0] rfl (ih _ _ _ (by rw [i_add1 (b := 13) (by omega) (by omega)]; omega) hres)
        · have hres := (if_neg h76).symm.trans hres
          refine v_lload (pc2 := 82) C 3 dX0_idealStep_80 rfl rfl ?_
          refine v_lload (pc2 := 84) C 2 dX0_idealStep_82 rfl rfl ?_
          refine v_lsub (pc2 := 85) C dX0_idealStep_84 rfl ?_
          refine v_lstore (pc2 := 87) (lv2 := [(4, _), (3, _), (9, _), (7, _), (0, _), (1, _), (2, _), (6, _)]) C dX0_idealStep_85 (by decide) rfl rfl ?_
          refine v_iload (pc2 := 89) C 7 dX0_idealStep_87 rfl rfl ?_
          refine v_istore_n (pc2 := 90) (lv2 := [(3, _), (4, _), (9, _), (7, _), (0, _), (1, _), (2, _), (6, _)]) C dX0_idealStep_89 (by decide) rfl rfl ?_
          refine v_iinc (pc2 := 93) (lv2 := [(6, _), (3, _), (4, _), (9, _), (7, _), (0, _), (1, _), (2, _)]) C 7 dX0_idealStep_90 rfl ki_1 (by decide) rfl rfl ?_
          refine v_goto (pc2 := 16) C dX0_idealStep_93 rfl ?_
          exact v_lv [5, 6, 7, 1, 2, 0] rfl (ih _ _ _ (by rw [i_add1 (b := 13) (by omega) (by omega)]; omega) hres)
def f0_idealStep (a1 : Int32) (a2 : Int32) : Int32 :=
  (f0_idealStep_L a1 a2 13 (0 : Int32) ((Int32.toInt64 (cosF (Int32.toNatClampNeg (0 : Int32)))) * (Int32.toInt64 a2)) (1 : Int32))
set_option maxHeartbeats 4000000 in
set_option maxRecDepth 100000 in
theorem bf0_idealStep {X : CX} {Λ : LY} (C : OK X Λ cX0_idealStep 11 RX0 0 0) {σ : St} {res : Int32} (E : EN X Λ (some .int) (some (.int res)) σ) (a1 : Int32) (a2 : Int32)  (hres : (f0_idealStep a1 a2) = res) : VV X Λ 11 0 [(0, .ref (adr Λ 1)), (1, .int (a1)), (2, .int (a2))] [] σ := by
  unfold f0_idealStep at hres
  refine v_iconst (pc2 := 1) C dX0_idealStep_0 ki_0 rfl ?_
  refine v_istore_n (pc2 := 2) (lv2 := [(3, _), (0, _), (1, _), (2, _)]) C dX0_idealStep_1 (by decide) rfl rfl ?_
  refine v_cos (pc2 := 5) C (by decide +kernel) dX0_idealStep_2 rfl ?_
  refine v_iconst (pc2 := 6) C dX0_idealStep_5 ki_0 rfl ?_
  refine v_cosld (pc2 := 7) C (in_lit (by decide +kernel)) dX0_idealStep_6 rfl ?_
  refine v_i2l (pc2 := 8) C dX0_idealStep_7 rfl ?_
  refine v_iload_n (pc2 := 9) C 3 dX0_idealStep_8 rfl rfl ?_
  refine v_i2l (pc2 := 10) C dX0_idealStep_9 rfl ?_
  refine v_lmul (pc2 := 11) C dX0_idealStep_10 rfl ?_
  refine v_lstore (pc2 := 13) (lv2 := [(4, _), (3, _), (0, _), (1, _), (2, _)]) C dX0_idealStep_11 (by decide) rfl rfl ?_
  refine v_iconst (pc2 := 14) C dX0_idealStep_13 ki_1 rfl ?_
  refine v_istore (pc2 := 16) (lv2 := [(6, _), (4, _), (3, _), (0, _), (1, _), (2, _)]) C dX0_idealStep_14 (by decide) rfl rfl ?_
  exact v_lv [3, 4, 5, 2, 1, 0] rfl (bf0_idealStep_L C E _ _ 13 _ _ _ (by rw [lit_1]; decide)  hres)
theorem mX0_idealStep (l : Launch) (Λ : LY) (σ : St) (a1 : Int32) (a2 : Int32)  : CT l Λ yX0_idealStep cX0_idealStep 11 (some .int) 0 0 [.ref (adr Λ 1), .int (a1), .int (a2)] σ (some (.int (f0_idealStep a1 a2))) σ := by
  refine CT_of (by decide +kernel) (Nat.le_of_ble_eq_true rfl) ?_
  intro X hX C E
  obtain ⟨res, hres⟩ : ∃ r, (f0_idealStep a1 a2) = r := ⟨_, rfl⟩
  rw [hres] at E
  exact bf0_idealStep C E _ _   hres
theorem id_L {x y : Int32} : ∀ (n : Nat) (b : Int32) (mo : Int64) (f : Int32), -12 ≤ b.toInt ∧ b.toInt ≤ 12 → 0 ≤ f.toInt ∧ f.toInt ≤ 13 → -12 ≤ (f0_idealStep_L x y n b mo f).toInt ∧ (f0_idealStep_L x y n b mo f).toInt ≤ 12 := by
  intro n
  induction n with
  | zero => intro b mo f hb hf; exact (by decide +kernel : -12 ≤ ((0 : Int32)).toInt ∧ ((0 : Int32)).toInt ≤ 12)
  | succ n ih =>
    intro b mo f hb hf
    rw [f0_idealStep_L]
    split
    · exact hb
    · rename_i h
      have h1 := t_nlt h lit_12 rfl
      have h2 := i_add1 (x := f) (b := 13) (by omega) (by omega)
      have h3 := i_neg (x := f) (by omega)
      repeat' split
      all_goals exact ih _ _ _ (by omega) (by omega)
theorem id_rg (x y : Int32) : -12 ≤ (f0_idealStep x y).toInt ∧ (f0_idealStep x y).toInt ≤ 12 := id_L _ _ _ _ (by decide +kernel) (by decide +kernel)
def f0_isFreeAt_P (a1 : Int32) (a2 : Int32) (a3 : Int32) : Nat → St → Int32 → St
  | 0, σ, _ => (σ)
  | n + 1, σ, j => (if (gI σ 2) ≤ j then σ else (if (gA σ 10 (Int32.toNatClampNeg j)) = (1 : Int32) then (f0_isFreeAt_P a1 a2 a3 n (f2_put σ j (Int32.toNatClampNeg j) (gA σ 15 (Int32.toNatClampNeg j)) a2 a3) (j + (1 : Int32))) else (f0_isFreeAt_P a1 a2 a3 n (f2_put σ j (Int32.toNatClampNeg j) a1 a2 a3) (j + (1 : Int32)))))
set_option maxHeartbeats 4000000 in
set_option maxRecDepth 100000 in
theorem bf0_isFreeAt_P {X : CX} {Λ : LY} (C : OK X Λ cX0_isFreeAt 6 RX0 3 69) {out : St} (a1 : Int32) (a2 : Int32) (a3 : Int32) (k : VV X Λ 6 72 [(0, .ref (adr Λ 1))] [] (out)) : ∀ (n : Nat) (σ : St) (j : Int32), (hs : Safe σ) → (hst : -12 ≤ a1.toInt ∧ a1.toInt ≤ 12) → (hu : UP 10 j n) → (f0_isFreeAt_P a1 a2 a3 n σ j) = out → VV X Λ 6 17 [(0, .ref (adr Λ 1)), (1, .int (a1)), (2, .int (a2)), (3, .int (a3)), (4, .int (j))] [] σ := by
  intro n
  induction n with
  | zero => intro σ j hs hst hu hres; exact absurd hu (fun h => h.z)
  | succ n ih =>
    intro σ j hs hst hu hres
    rw [f0_isFreeAt_P] at hres
    refine v_iload (pc2 := 19) C 4 dX0_isFreeAt_17 rfl rfl ?_
    refine v_aload_n (pc2 := 20) C 0 dX0_isFreeAt_19 rfl rfl ?_
    refine vg_X0_count (pc2 := 23) C lf_X0_35 dX0_isFreeAt_20 rfl ?_
    refine v_icmpge (pc2 := 72) (pc3 := 26) C dX0_isFreeAt_23 rfl rfl (fun h23 => ?_) (fun h23 => ?_)
    · have hres := (if_pos h23).symm.trans hres
      have t23 := t_le h23 rfl rfl
      subst hres
      exact v_lv [0] rfl k
    · have hres := (if_neg h23).symm.trans hres
      have t23 := t_nle h23 rfl rfl
      refine v_aload_n (pc2 := 27) C 0 dX0_isFreeAt_26 rfl rfl ?_
      refine vg_X0_rows (pc2 := 30) C lf_X0_11 dX0_isFreeAt_27 rfl ?_
      refine v_iload (pc2 := 32) C 4 dX0_isFreeAt_30 rfl rfl ?_
      have in32 : vp_in j 10 := hu.in h23 hs.cnt.2
      refine v_aald (pc2 := 33) C in32 dX0_isFreeAt_32 rfl ?_
      refine v_astore (pc2 := 35) (lv2 := [(5, _), (0, _), (1, _), (2, _), (3, _), (4, _)]) C dX0_isFreeAt_33 (by decide) rfl rfl ?_
      refine v_aload_n (pc2 := 36) C 1 dX0_isFreeAt_35 rfl rfl ?_
      refine vg_X0_looks (pc2 := 39) C lf_X0_20 dX0_isFreeAt_36 rfl ?_
      refine v_iload (pc2 := 41) C 5 dX0_isFreeAt_39 rfl rfl ?_
      refine v_aload (pc2 := 43) C 0 dX0_isFreeAt_41 rfl rfl ?_
      refine v_aload (pc2 := 45) C 0 dX0_isFreeAt_43 rfl rfl ?_
      refine vg_X3_kind (pc2 := 48) C (vlt in32) lf_X0_64 dX0_isFreeAt_45 rfl ?_
      refine v_iconst (pc2 := 49) C dX0_isFreeAt_48 ki_1 rfl ?_
      refine v_icmpne (pc2 := 60) (pc3 := 52) C dX0_isFreeAt_49 rfl rfl (fun h49 => ?_) (fun h49 => ?_)
      · have hres := (if_neg h49).symm.trans hres
        have t49 := t_neq h49 rfl lit_1
        refine v_iload_n (pc2 := 61) C 2 dX0_isFreeAt_60 rfl rfl ?_
        refine v_iload_n (pc2 := 62) C 3 dX0_isFreeAt_61 rfl rfl ?_
        refine v_iload_n (pc2 := 63) C 4 dX0_isFreeAt_62 rfl rfl ?_
        refine v_cVv (pc2 := 66) C kc_X0_70 (mX2_put (xl X) Λ _ _ _ (vlt in32) _ _ _ in32 (by first | exact hs.stp _ (vlt in32) | exact hst)) (wd10 Λ _) rfl (by decide) rfl rfl (Nat.le_of_ble_eq_true rfl) dX0_isFreeAt_63 rfl ?_
        refine v_iinc (pc2 := 69) (lv2 := [(4, _), (5, _), (0, _), (1, _), (2, _), (3, _)]) C 5 dX0_isFreeAt_66 rfl ki_1 (by decide) rfl rfl ?_
        refine v_goto (pc2 := 17) C dX0_isFreeAt_69 rfl ?_
        exact v_lv [2, 3, 4, 5, 0] rfl (ih _ _ (sX2_put hs) hst (hu.step h23 hs.cnt.2 (by decide)) hres)
      · have hres := (if_pos h49).symm.trans hres
        have t49 := t_eq h49 rfl lit_1
        refine v_aload (pc2 := 54) C 0 dX0_isFreeAt_52 rfl rfl ?_
        refine vg_X3_step (pc2 := 57) C (vlt in32) lf_X0_67 dX0_isFreeAt_54 rfl ?_
        refine v_goto (pc2 := 61) C dX0_isFreeAt_57 rfl ?_
        refine v_iload_n (pc2 := 62) C 3 dX0_isFreeAt_61 rfl rfl ?_
        refine v_iload_n (pc2 := 63) C 4 dX0_isFreeAt_62 rfl rfl ?_
        refine v_cVv (pc2 := 66) C kc_X0_70 (mX2_put (xl X) Λ _ _ _ (vlt in32) _ _ _ in32 (by first | exact hs.stp _ (vlt in32) | exact hst)) (wd10 Λ _) rfl (by decide) rfl rfl (Nat.le_of_ble_eq_true rfl) dX0_isFreeAt_63 rfl ?_
        refine v_iinc (pc2 := 69) (lv2 := [(4, _), (5, _), (0, _), (1, _), (2, _), (3, _)]) C 5 dX0_isFreeAt_66 rfl ki_1 (by decide) rfl rfl ?_
        refine v_goto (pc2 := 17) C dX0_isFreeAt_69 rfl ?_
        exact v_lv [2, 3, 4, 5, 0] rfl (ih _ _ (sX2_put hs) hst (hu.step h23 hs.cnt.2 (by decide)) hres)
theorem sX0_isFreeAt_P {a b c : Int32} : ∀ (n : Nat) (σ : St) (j : Int32), Safe σ → Safe (f0_isFreeAt_P a b c n σ j) := by
  intro n
  induction n with
  | zero => intro σ j h; exact h
  | succ n ih =>
    intro σ j h
    rw [f0_isFreeAt_P]
    repeat' split
    all_goals first | exact h | (refine ih _ _ ?_; repeat' (first | assumption | apply sX2_put))
def f0_isFreeAt_Q : Nat → St → Int32 → Int32 × St
  | 0, σ, _ => (0, σ)
  | n + 1, σ, j => (if (gI σ 2) ≤ j then ((1 : Int32), σ) else (if (gA σ 10 (Int32.toNatClampNeg j)) = (1 : Int32) then (f0_isFreeAt_Q n σ (j + (1 : Int32))) else (if (f2_isLit σ j) = (0 : Int32) then (f0_isFreeAt_Q n σ (j + (1 : Int32))) else (if (f2_isShaded σ j (f0_firstAhead σ j) (f0_lastAhead σ j)) = (0 : Int32) then (f0_isFreeAt_Q n σ (j + (1 : Int32))) else ((0 : Int32), σ)))))
set_option maxHeartbeats 4000000 in
set_option maxRecDepth 100000 in
theorem bf0_isFreeAt_Q {X : CX} {Λ : LY} (C : OK X Λ cX0_isFreeAt 6 RX0 3 69) {res : Int32 × St} (E : EN X Λ (some .boolean) (some (.int res.1)) res.2)  : ∀ (n : Nat) (σ : St) (j : Int32), (hs : Safe σ) → (hu : UP 10 j n) → (f0_isFreeAt_Q n σ j) = res → VV X Λ 6 75 [(0, .ref (adr Λ 1)), (4, .int (j))] [] σ := by
  intro n
  induction n with
  | zero => intro σ j hs hu hres; exact absurd hu (fun h => h.z)
  | succ n ih =>
    intro σ j hs hu hres
    rw [f0_isFreeAt_Q] at hres
    refine v_iload (pc2 := 77) C 1 dX0_isFreeAt_75 rfl rfl ?_
    refine v_aload_n (pc2 := 78) C 0 dX0_isFreeAt_77 rfl rfl ?_
    refine vg_X0_count (pc2 := 81) C lf_X0_35 dX0_isFreeAt_78 rfl ?_
    refine v_icmpge (pc2 := 142) (pc3 := 84) C dX0_isFreeAt_81 rfl rfl (fun h81 => ?_) (fun h81 => ?_)
    · have hres := (if_pos h81).symm.trans hres
      have t81 := t_le h81 rfl rfl
      refine v_iconst (pc2 := 143) C dX0_isFreeAt_142 ki_1 rfl ?_
      exact r_zS C E (Or.inr rfl) hres dX0_isFreeAt_143
    · have hres := (if_neg h81).symm.trans hres
      have t81 := t_nle h81 rfl rfl
      refine v_aload_n (pc2 := 85) C 0 dX0_isFreeAt_84 rfl rfl ?_
      refine vg_X0_rows (pc2 := 88) C lf_X0_11 dX0_isFreeAt_85 rfl ?_
      refine v_iload (pc2 := 90) C 1 dX0_isFreeAt_88 rfl rfl ?_
      have in90 : vp_in j 10 := hu.in h81 hs.cnt.2
      refine v_aald (pc2 := 91) C in90 dX0_isFreeAt_90 rfl ?_
      refine vg_X3_kind (pc2 := 94) C (vlt in90) lf_X0_64 dX0_isFreeAt_91 rfl ?_
      refine v_iconst (pc2 := 95) C dX0_isFreeAt_94 ki_1 rfl ?_
      refine v_icmpeq (pc2 := 136) (pc3 := 98) C dX0_isFreeAt_95 rfl rfl (fun h95 => ?_) (fun h95 => ?_)
      · have hres := (if_pos h95).symm.trans hres
        have t95 := t_eq h95 rfl lit_1
        refine v_iinc (pc2 := 139) (lv2 := [(4, _), (0, _)]) C 1 dX0_isFreeAt_136 rfl ki_1 (by decide) rfl rfl ?_
        refine v_goto (pc2 := 75) C dX0_isFreeAt_139 rfl ?_
        exact v_lv [1, 0] rfl (ih _ _ hs (hu.step h81 hs.cnt.2 (by decide)) hres)
      · have hres := (if_neg h95).symm.trans hres
        have t95 := t_neq h95 rfl lit_1
        refine v_aload_n (pc2 := 99) C 0 dX0_isFreeAt_98 rfl rfl ?_
        refine vg_X0_looks (pc2 := 102) C lf_X0_20 dX0_isFreeAt_99 rfl ?_
        refine v_iload (pc2 := 104) C 1 dX0_isFreeAt_102 rfl rfl ?_
        refine v_cVi (pc2 := 107) C kc_X0_74 (mX2_isLit (xl X) Λ _ _ in90) (wd10 Λ _) rfl (by decide) rfl rfl (Nat.le_of_ble_eq_true rfl) dX0_isFreeAt_104 rfl ?_
        refine v_ifeq (pc2 := 136) (pc3 := 110) C dX0_isFreeAt_107 rfl rfl (fun h107 => ?_) (fun h107 => ?_)
        · have hres := (if_pos h107).symm.trans hres
          have t107 := t_eq h107 rfl lit_0
          refine v_iinc (pc2 := 139) (lv2 := [(4, _), (0, _)]) C 1 dX0_isFreeAt_136 rfl ki_1 (by decide) rfl rfl ?_
          refine v_goto (pc2 := 75) C dX0_isFreeAt_139 rfl ?_
          exact v_lv [1, 0] rfl (ih _ _ hs (hu.step h81 hs.cnt.2 (by decide)) hres)
        · have hres := (if_neg h107).symm.trans hres
          have t107 := t_neq h107 rfl lit_0
          refine v_aload_n (pc2 := 111) C 0 dX0_isFreeAt_110 rfl rfl ?_
          refine vg_X0_looks (pc2 := 114) C lf_X0_20 dX0_isFreeAt_111 rfl ?_
          refine v_iload (pc2 := 116) C 1 dX0_isFreeAt_114 rfl rfl ?_
          refine v_aload_n (pc2 := 117) C 0 dX0_isFreeAt_116 rfl rfl ?_
          refine v_iload (pc2 := 119) C 1 dX0_isFreeAt_117 rfl rfl ?_
          refine v_cVi (pc2 := 122) C kc_X0_77 (mX0_firstAhead (xl X) Λ _ _) (wd1 Λ _) rfl (by decide) rfl rfl (Nat.le_of_ble_eq_true rfl) dX0_isFreeAt_119 rfl ?_
          refine v_aload_n (pc2 := 123) C 0 dX0_isFreeAt_122 rfl rfl ?_
          refine v_iload (pc2 := 125) C 1 dX0_isFreeAt_123 rfl rfl ?_
          refine v_cVi (pc2 := 128) C kc_X0_81 (mX0_lastAhead (xl X) Λ _ _) (wd1 Λ _) rfl (by decide) rfl rfl (Nat.le_of_ble_eq_true rfl) dX0_isFreeAt_125 rfl ?_
          refine v_cVi (pc2 := 131) C kc_X0_84 (mX2_isShaded (xl X) Λ _ _ _ _ in90 (fa_rg in90) (la_rg hs in90)) (wd10 Λ _) rfl (by decide) rfl rfl (Nat.le_of_ble_eq_true rfl) dX0_isFreeAt_128 rfl ?_
          refine v_ifeq (pc2 := 136) (pc3 := 134) C dX0_isFreeAt_131 rfl rfl (fun h131 => ?_) (fun h131 => ?_)
          · have hres := (if_pos h131).symm.trans hres
            have t131 := t_eq h131 rfl lit_0
            refine v_iinc (pc2 := 139) (lv2 := [(4, _), (0, _)]) C 1 dX0_isFreeAt_136 rfl ki_1 (by decide) rfl rfl ?_
            refine v_goto (pc2 := 75) C dX0_isFreeAt_139 rfl ?_
            exact v_lv [1, 0] rfl (ih _ _ hs (hu.step h81 hs.cnt.2 (by decide)) hres)
          · have hres := (if_neg h131).symm.trans hres
            have t131 := t_neq h131 rfl lit_0
            refine v_iconst (pc2 := 135) C dX0_isFreeAt_134 ki_0 rfl ?_
            exact r_zS C E (Or.inl rfl) hres dX0_isFreeAt_135
def f0_isFreeAt (σ : St) (a1 : Int32) (a2 : Int32) (a3 : Int32) : Int32 × St :=
  (if (f9_isStep a1) = (0 : Int32) then ((0 : Int32), σ) else (f0_isFreeAt_Q 11 (f0_isFreeAt_P a1 a2 a3 11 (uI σ 3 a2) (0 : Int32)) (0 : Int32)))
set_option maxHeartbeats 4000000 in
set_option maxRecDepth 100000 in
theorem bf0_isFreeAt {X : CX} {Λ : LY} (C : OK X Λ cX0_isFreeAt 6 RX0 3 69) {res : Int32 × St} (E : EN X Λ (some .boolean) (some (.int res.1)) res.2) (σ : St) (a1 : Int32) (a2 : Int32) (a3 : Int32) (hs : Safe σ) (hres : (f0_isFreeAt σ a1 a2 a3) = res) : VV X Λ 6 0 [(0, .ref (adr Λ 1)), (1, .int (a1)), (2, .int (a2)), (3, .int (a3))] [] σ := by
  unfold f0_isFreeAt at hres
  refine v_iload_n (pc2 := 1) C 1 dX0_isFreeAt_0 rfl rfl ?_
  refine v_cNi (pc2 := 4) C kc_X0_60 (mX9_isStep (xl X) Λ _ _) (by decide) rfl rfl (Nat.le_of_ble_eq_true rfl) dX0_isFreeAt_1 rfl ?_
  refine v_ifne (pc2 := 9) (pc3 := 7) C dX0_isFreeAt_4 rfl rfl (fun h4 => ?_) (fun h4 => ?_)
  · have hres := (if_neg h4).symm.trans hres
    have t4 := t_neq h4 rfl lit_0
    refine v_aload_n (pc2 := 10) C 0 dX0_isFreeAt_9 rfl rfl ?_
    refine v_iload_n (pc2 := 11) C 2 dX0_isFreeAt_10 rfl rfl ?_
    refine vp_X0_sunX (pc2 := 14) C lf_X0_39 dX0_isFreeAt_11 rfl ?_
    refine v_iconst (pc2 := 15) C dX0_isFreeAt_14 ki_0 rfl ?_
    refine v_istore (pc2 := 17) (lv2 := [(4, _), (0, _), (1, _), (2, _), (3, _)]) C dX0_isFreeAt_15 (by decide) rfl rfl ?_
    refine v_lv [1, 2, 3, 4, 0] rfl ?_
    refine bf0_isFreeAt_P C a1 a2 a3 (out := (f0_isFreeAt_P a1 a2 a3 11 (uI σ 3 a2) (0 : Int32))) ?_ 11 (uI σ 3 a2) (0 : Int32) (sf_I (by decide) hs) (isStep_rg h4) UP.start rfl
    refine v_iconst (pc2 := 73) C dX0_isFreeAt_72 ki_0 rfl ?_
    refine v_istore (pc2 := 75) (lv2 := [(4, _), (0, _)]) C dX0_isFreeAt_73 (by decide) rfl rfl ?_
    exact v_lv [1, 0] rfl (bf0_isFreeAt_Q C E  11 _ _ (sX0_isFreeAt_P _ _ _ (sf_I (by decide) hs)) UP.start  hres)
  · have hres := (if_pos h4).symm.trans hres
    have t4 := t_eq h4 rfl lit_0
    refine v_iconst (pc2 := 8) C dX0_isFreeAt_7 ki_0 rfl ?_
    exact r_zS C E (Or.inl rfl) hres dX0_isFreeAt_8
theorem mX0_isFreeAt (l : Launch) (Λ : LY) (σ : St) (a1 : Int32) (a2 : Int32) (a3 : Int32) (hs : Safe σ) : CT l Λ yX0_isFreeAt cX0_isFreeAt 6 (some .boolean) 3 69 [.ref (adr Λ 1), .int (a1), .int (a2), .int (a3)] σ (some (.int (f0_isFreeAt σ a1 a2 a3).1)) (f0_isFreeAt σ a1 a2 a3).2 := by
  refine CT_of (by decide +kernel) (Nat.le_of_ble_eq_true rfl) ?_
  intro X hX C E
  obtain ⟨res, hres⟩ : ∃ r, (f0_isFreeAt σ a1 a2 a3) = r := ⟨_, rfl⟩
  rw [hres] at E
  exact bf0_isFreeAt C E _ _ _ _  hs hres
theorem zX0_isFreeAt (σ : St) (a1 : Int32) (a2 : Int32) (a3 : Int32) : (f0_isFreeAt σ a1 a2 a3).1 = 0 ∨ (f0_isFreeAt σ a1 a2 a3).1 = 1 := by
  unfold f0_isFreeAt
  split
  · exact Or.inl rfl
  · suffices h : ∀ n σ j, (f0_isFreeAt_Q n σ j).1 = 0 ∨ (f0_isFreeAt_Q n σ j).1 = 1 from h _ _ _
    intro n
    induction n with
    | zero => intro σ j; exact Or.inl rfl
    | succ n ih =>
      intro σ j; rw [f0_isFreeAt_Q]; repeat' split
      all_goals first | exact Or.inl rfl | exact Or.inr rfl | exact ih _ _
theorem sX0_isFreeAt_Q  : ∀ (n : Nat) (σ : St) (j : Int32), Safe σ → Safe (f0_isFreeAt_Q n σ j).2 := by
  intro n
  induction n with
  | zero => intro σ j h; exact h
  | succ n ih =>
    intro σ j h
    rw [f0_isFreeAt_Q]
    repeat' split
    all_goals first | exact h | (refine ih _ _ ?_; repeat' (first | assumption | skip))
theorem sX0_isFreeAt {σ : St} {a b c : Int32} (h : Safe σ) : Safe (f0_isFreeAt σ a b c).2 := by
  unfold f0_isFreeAt
  split
  · exact h
  · exact sX0_isFreeAt_Q _ _ _ (sX0_isFreeAt_P _ _ _ (sf_I (by decide) h))
theorem free_rg {σ : St} {a b c : Int32} (h : ¬ (f0_isFreeAt σ a b c).1 = 0) : -12 ≤ a.toInt ∧ a.toInt ≤ 12 := by
  unfold f0_isFreeAt at h
  split at h
  · exact absurd rfl h
  · rename_i h1; exact isStep_rg h1
def f0_backStep_L (a1 : Int32) (a2 : Int32) (w : Int32) : Nat → St → Int32 → Int32 × St
  | 0, σ, _ => (0, σ)
  | n + 1, σ, f => (if (24 : Int32) < f then ((99 : Int32), σ) else (if ((f0_isFreeAt σ (w - f) a1 a2).1) = (0 : Int32) then (if ((f0_isFreeAt ((f0_isFreeAt σ (w - f) a1 a2).2) (w + f) a1 a2).1) = (0 : Int32) then (f0_backStep_L a1 a2 w n ((f0_isFreeAt ((f0_isFreeAt σ (w - f) a1 a2).2) (w + f) a1 a2).2) (f + (1 : Int32))) else ((w + f), ((f0_isFreeAt ((f0_isFreeAt σ (w - f) a1 a2).2) (w + f) a1 a2).2))) else ((w - f), ((f0_isFreeAt σ (w - f) a1 a2).2))))
set_option maxHeartbeats 4000000 in
set_option maxRecDepth 100000 in
theorem bf0_backStep_L {X : CX} {Λ : LY} (C : OK X Λ cX0_backStep 5 RX0 4 94) {res : Int32 × St} (E : EN X Λ (some .int) (some (.int res.1)) res.2) (a1 : Int32) (a2 : Int32) (w : Int32)  : ∀ (n : Nat) (σ : St) (f : Int32), (hs : Safe σ) → (hu : UP 25 f n) → (f0_backStep_L a1 a2 w n σ f) = res → VV X Λ 5 10 [(0, .ref (adr Λ 1)), (1, .int (a1)), (2, .int (a2)), (3, .int (w)), (4, .int (f))] [] σ := by
  intro n
  induction n with
  | zero => intro σ f hs hu hres; exact absurd hu (fun h => h.z)
  | succ n ih =>
    intro σ f hs hu hres
    rw [f0_backStep_L] at hres
    refine v_iload (pc2 := 12) C 4 dX0_backStep_10 rfl rfl ?_
    refine v_bipush (pc2 := 14) C dX0_backStep_12 kb_24 rfl ?_
    refine v_icmpgt (pc2 := 59) (pc3 := 17) C dX0_backStep_14 rfl rfl (fun h14 => ?_) (fun h14 => ?_)
    · have hres := (if_pos h14).symm.trans hres
      refine v_bipush (pc2 := 61) C dX0_backStep_59 kb_99 rfl ?_
      exact r_iS C E hres dX0_backStep_61
    · have hres := (if_neg h14).symm.trans hres
      refine v_aload_n (pc2 := 18) C 0 dX0_backStep_17 rfl rfl ?_
      refine v_iload_n (pc2 := 19) C 3 dX0_backStep_18 rfl rfl ?_
      refine v_iload (pc2 := 21) C 4 dX0_backStep_19 rfl rfl ?_
      refine v_isub (pc2 := 22) C dX0_backStep_21 rfl ?_
      refine v_iload_n (pc2 := 23) C 1 dX0_backStep_22 rfl rfl ?_
      refine v_iload_n (pc2 := 24) C 2 dX0_backStep_23 rfl rfl ?_
      refine v_cVi (pc2 := 27) C kc_X0_56 (mX0_isFreeAt (xl X) Λ _ _ _ _ hs) (wd1 Λ _) rfl (by decide) rfl rfl (Nat.le_of_ble_eq_true rfl) dX0_backStep_24 rfl ?_
      refine v_ifeq (pc2 := 35) (pc3 := 30) C dX0_backStep_27 rfl rfl (fun h27 => ?_) (fun h27 => ?_)
      · have hres := (if_pos h27).symm.trans hres
        refine v_aload_n (pc2 := 36) C 0 dX0_backStep_35 rfl rfl ?_
        refine v_iload_n (pc2 := 37) C 3 dX0_backStep_36 rfl rfl ?_
        refine v_iload (pc2 := 39) C 4 dX0_backStep_37 rfl rfl ?_
        refine v_iadd (pc2 := 40) C dX0_backStep_39 rfl ?_
        refine v_iload_n (pc2 := 41) C 1 dX0_backStep_40 rfl rfl ?_
        refine v_iload_n (pc2 := 42) C 2 dX0_backStep_41 rfl rfl ?_
        refine v_cVi (pc2 := 45) C kc_X0_56 (mX0_isFreeAt (xl X) Λ _ _ _ _ (sX0_isFreeAt hs)) (wd1 Λ _) rfl (by decide) rfl rfl (Nat.le_of_ble_eq_true rfl) dX0_backStep_42 rfl ?_
        refine v_ifeq (pc2 := 53) (pc3 := 48) C dX0_backStep_45 rfl rfl (fun h45 => ?_) (fun h45 => ?_)
        · have hres := (if_pos h45).symm.trans hres
          refine v_iinc (pc2 := 56) (lv2 := [(4, _), (0, _), (1, _), (2, _), (3, _)]) C 4 dX0_backStep_53 rfl ki_1 (by decide) rfl rfl ?_
          refine v_goto (pc2 := 10) C dX0_backStep_56 rfl ?_
          exact v_lv [1, 2, 3, 4, 0] rfl (ih _ _ (sX0_isFreeAt (sX0_isFreeAt hs)) (hu.step2 h14 (by rw [lit_24]; decide) (by decide)) hres)
        · have hres := (if_neg h45).symm.trans hres
          refine v_iload_n (pc2 := 49) C 3 dX0_backStep_48 rfl rfl ?_
          refine v_iload (pc2 := 51) C 4 dX0_backStep_49 rfl rfl ?_
          refine v_iadd (pc2 := 52) C dX0_backStep_51 rfl ?_
          exact r_iS C E hres dX0_backStep_52
      · have hres := (if_neg h27).symm.trans hres
        refine v_iload_n (pc2 := 31) C 3 dX0_backStep_30 rfl rfl ?_
        refine v_iload (pc2 := 33) C 4 dX0_backStep_31 rfl rfl ?_
        refine v_isub (pc2 := 34) C dX0_backStep_33 rfl ?_
        exact r_iS C E hres dX0_backStep_34
def f0_backStep (σ : St) (a1 : Int32) (a2 : Int32) : Int32 × St :=
  (f0_backStep_L a1 a2 (f0_idealStep a1 a2) 26 σ (0 : Int32))
set_option maxHeartbeats 4000000 in
set_option maxRecDepth 100000 in
theorem bf0_backStep {X : CX} {Λ : LY} (C : OK X Λ cX0_backStep 5 RX0 4 94) {res : Int32 × St} (E : EN X Λ (some .int) (some (.int res.1)) res.2) (σ : St) (a1 : Int32) (a2 : Int32) (hs : Safe σ) (hres : (f0_backStep σ a1 a2) = res) : VV X Λ 5 0 [(0, .ref (adr Λ 1)), (1, .int (a1)), (2, .int (a2))] [] σ := by
  unfold f0_backStep at hres
  refine v_aload_n (pc2 := 1) C 0 dX0_backStep_0 rfl rfl ?_
  refine v_iload_n (pc2 := 2) C 1 dX0_backStep_1 rfl rfl ?_
  refine v_iload_n (pc2 := 3) C 2 dX0_backStep_2 rfl rfl ?_
  refine v_cVi (pc2 := 6) C kc_X0_52 (mX0_idealStep (xl X) Λ _ _ _) (wd1 Λ _) rfl (by decide) rfl rfl (Nat.le_of_ble_eq_true rfl) dX0_backStep_3 rfl ?_
  refine v_istore_n (pc2 := 7) (lv2 := [(3, _), (0, _), (1, _), (2, _)]) C dX0_backStep_6 (by decide) rfl rfl ?_
  refine v_iconst (pc2 := 8) C dX0_backStep_7 ki_0 rfl ?_
  refine v_istore (pc2 := 10) (lv2 := [(4, _), (3, _), (0, _), (1, _), (2, _)]) C dX0_backStep_8 (by decide) rfl rfl ?_
  exact v_lv [2, 3, 4, 1, 0] rfl (bf0_backStep_L C E _ _ _ 26 _ _ hs UP.start  hres)
theorem mX0_backStep (l : Launch) (Λ : LY) (σ : St) (a1 : Int32) (a2 : Int32) (hs : Safe σ) : CT l Λ yX0_backStep cX0_backStep 5 (some .int) 4 94 [.ref (adr Λ 1), .int (a1), .int (a2)] σ (some (.int (f0_backStep σ a1 a2).1)) (f0_backStep σ a1 a2).2 := by
  refine CT_of (by decide +kernel) (Nat.le_of_ble_eq_true rfl) ?_
  intro X hX C E
  obtain ⟨res, hres⟩ : ∃ r, (f0_backStep σ a1 a2) = r := ⟨_, rfl⟩
  rw [hres] at E
  exact bf0_backStep C E _ _ _  hs hres
theorem sX0_backStep_L {a b w : Int32} : ∀ (n : Nat) (σ : St) (f : Int32), Safe σ → Safe (f0_backStep_L a b w n σ f).2 := by
  intro n
  induction n with
  | zero => intro σ f h; exact h
  | succ n ih =>
    intro σ f h
    rw [f0_backStep_L]
    split
    · exact h
    · split
      · split
        · exact ih _ _ (sX0_isFreeAt (sX0_isFreeAt h))
        · exact sX0_isFreeAt (sX0_isFreeAt h)
      · exact sX0_isFreeAt h
theorem sX0_backStep {σ : St} {a b : Int32} (h : Safe σ) : Safe (f0_backStep σ a b).2 := sX0_backStep_L _ _ _ h
theorem bk_L {a b w : Int32} : ∀ (n : Nat) (σ : St) (f : Int32), (f0_backStep_L a b w n σ f).1 = 99 ∨ (-12 ≤ (f0_backStep_L a b w n σ f).1.toInt ∧ (f0_backStep_L a b w n σ f).1.toInt ≤ 12) := by
  intro n
  induction n with
  | zero => intro σ f; exact Or.inr (by decide +kernel : -12 ≤ ((0 : Int32)).toInt ∧ ((0 : Int32)).toInt ≤ 12)
  | succ n ih =>
    intro σ f
    rw [f0_backStep_L]
    repeat' split
    all_goals first | exact Or.inl rfl | exact ih _ _ | (rename_i h; exact Or.inr (free_rg h))
theorem bk_rg (σ : St) (a b : Int32) : (f0_backStep σ a b).1 = 99 ∨ (-12 ≤ (f0_backStep σ a b).1.toInt ∧ (f0_backStep σ a b).1.toInt ≤ 12) := bk_L _ _ _
def f0_lookAsTurned_L (a1 : Int32) (a2 : Int32) : Nat → St → Int32 → St
  | 0, σ, _ => (σ)
  | n + 1, σ, j => (if (gI σ 2) ≤ j then σ else (f0_lookAsTurned_L a1 a2 n (f2_put σ j (Int32.toNatClampNeg j) (gA σ 15 (Int32.toNatClampNeg j)) a1 a2) (j + (1 : Int32))))
set_option maxHeartbeats 4000000 in
set_option maxRecDepth 100000 in
theorem bf0_lookAsTurned_L {X : CX} {Λ : LY} (C : OK X Λ cX0_lookAsTurned 4 RX0 2 56) {res : St} (E : EN X Λ none none res) (a1 : Int32) (a2 : Int32)  : ∀ (n : Nat) (σ : St) (j : Int32), (hs : Safe σ) → (hu : UP 10 j n) → (f0_lookAsTurned_L a1 a2 n σ j) = res → VV X Λ 4 7 [(0, .ref (adr Λ 1)), (1, .int (a1)), (2, .int (a2)), (3, .int (j))] [] σ := by
  intro n
  induction n with
  | zero => intro σ j hs hu hres; exact absurd hu (fun h => h.z)
  | succ n ih =>
    intro σ j hs hu hres
    rw [f0_lookAsTurned_L] at hres
    refine v_iload_n (pc2 := 8) C 3 dX0_lookAsTurned_7 rfl rfl ?_
    refine v_aload_n (pc2 := 9) C 0 dX0_lookAsTurned_8 rfl rfl ?_
    refine vg_X0_count (pc2 := 12) C lf_X0_35 dX0_lookAsTurned_9 rfl ?_
    refine v_icmpge (pc2 := 46) (pc3 := 15) C dX0_lookAsTurned_12 rfl rfl (fun h12 => ?_) (fun h12 => ?_)
    · have hres := (if_pos h12).symm.trans hres
      exact r_vS C E hres dX0_lookAsTurned_46
    · have hres := (if_neg h12).symm.trans hres
      refine v_aload_n (pc2 := 16) C 0 dX0_lookAsTurned_15 rfl rfl ?_
      refine vg_X0_looks (pc2 := 19) C lf_X0_20 dX0_lookAsTurned_16 rfl ?_
      refine v_iload_n (pc2 := 20) C 3 dX0_lookAsTurned_19 rfl rfl ?_
      refine v_aload_n (pc2 := 21) C 0 dX0_lookAsTurned_20 rfl rfl ?_
      refine vg_X0_rows (pc2 := 24) C lf_X0_11 dX0_lookAsTurned_21 rfl ?_
      refine v_iload_n (pc2 := 25) C 3 dX0_lookAsTurned_24 rfl rfl ?_
      have in25 : vp_in j 10 := hu.in h12 hs.cnt.2
      refine v_aald (pc2 := 26) C in25 dX0_lookAsTurned_25 rfl ?_
      refine v_aload_n (pc2 := 27) C 0 dX0_lookAsTurned_26 rfl rfl ?_
      refine vg_X0_rows (pc2 := 30) C lf_X0_11 dX0_lookAsTurned_27 rfl ?_
      refine v_iload_n (pc2 := 31) C 3 dX0_lookAsTurned_30 rfl rfl ?_
      have in31 : vp_in j 10 := hu.in h12 hs.cnt.2
      refine v_aald (pc2 := 32) C in31 dX0_lookAsTurned_31 rfl ?_
      refine vg_X3_step (pc2 := 35) C (vlt in31) lf_X0_67 dX0_lookAsTurned_32 rfl ?_
      refine v_iload_n (pc2 := 36) C 1 dX0_lookAsTurned_35 rfl rfl ?_
      refine v_iload_n (pc2 := 37) C 2 dX0_lookAsTurned_36 rfl rfl ?_
      refine v_cVv (pc2 := 40) C kc_X0_70 (mX2_put (xl X) Λ _ _ _ (vlt in25) _ _ _ in25 (hs.stp _ (vlt in31))) (wd10 Λ _) rfl (by decide) rfl rfl (Nat.le_of_ble_eq_true rfl) dX0_lookAsTurned_37 rfl ?_
      refine v_iinc (pc2 := 43) (lv2 := [(3, _), (0, _), (1, _), (2, _)]) C 3 dX0_lookAsTurned_40 rfl ki_1 (by decide) rfl rfl ?_
      refine v_goto (pc2 := 7) C dX0_lookAsTurned_43 rfl ?_
      exact v_lv [1, 2, 3, 0] rfl (ih _ _ (sX2_put hs) (hu.step h12 hs.cnt.2 (by decide)) hres)
def f0_lookAsTurned (σ : St) (a1 : Int32) (a2 : Int32) : St :=
  (f0_lookAsTurned_L a1 a2 11 (uI σ 3 a1) (0 : Int32))
set_option maxHeartbeats 4000000 in
set_option maxRecDepth 100000 in
theorem bf0_lookAsTurned {X : CX} {Λ : LY} (C : OK X Λ cX0_lookAsTurned 4 RX0 2 56) {res : St} (E : EN X Λ none none res) (σ : St) (a1 : Int32) (a2 : Int32) (hs : Safe σ) (hres : (f0_lookAsTurned σ a1 a2) = res) : VV X Λ 4 0 [(0, .ref (adr Λ 1)), (1, .int (a1)), (2, .int (a2))] [] σ := by
  unfold f0_lookAsTurned at hres
  refine v_aload_n (pc2 := 1) C 0 dX0_lookAsTurned_0 rfl rfl ?_
  refine v_iload_n (pc2 := 2) C 1 dX0_lookAsTurned_1 rfl rfl ?_
  refine vp_X0_sunX (pc2 := 5) C lf_X0_39 dX0_lookAsTurned_2 rfl ?_
  refine v_iconst (pc2 := 6) C dX0_lookAsTurned_5 ki_0 rfl ?_
  refine v_istore_n (pc2 := 7) (lv2 := [(3, _), (0, _), (1, _), (2, _)]) C dX0_lookAsTurned_6 (by decide) rfl rfl ?_
  exact v_lv [1, 2, 3, 0] rfl (bf0_lookAsTurned_L C E _ _ 11 _ _ (sf_I (by decide) hs) UP.start  hres)
theorem mX0_lookAsTurned (l : Launch) (Λ : LY) (σ : St) (a1 : Int32) (a2 : Int32) (hs : Safe σ) : CT l Λ yX0_lookAsTurned cX0_lookAsTurned 4 none 2 56 [.ref (adr Λ 1), .int (a1), .int (a2)] σ none (f0_lookAsTurned σ a1 a2) := by
  refine CT_of (by decide +kernel) (Nat.le_of_ble_eq_true rfl) ?_
  intro X hX C E
  obtain ⟨res, hres⟩ : ∃ r, (f0_lookAsTurned σ a1 a2) = r := ⟨_, rfl⟩
  rw [hres] at E
  exact bf0_lookAsTurned C E _ _ _  hs hres
theorem sX0_lookAsTurned_L {a b : Int32} : ∀ (n : Nat) (σ : St) (j : Int32), Safe σ → Safe (f0_lookAsTurned_L a b n σ j) := by
  intro n
  induction n with
  | zero => intro σ j h; exact h
  | succ n ih =>
    intro σ j h
    rw [f0_lookAsTurned_L]
    repeat' split
    all_goals first | exact h | (refine ih _ _ ?_; repeat' (first | assumption | apply sX2_put))
theorem sX0_lookAsTurned {σ : St} {a b : Int32} (h : Safe σ) : Safe (f0_lookAsTurned σ a b) := sX0_lookAsTurned_L _ _ _ (sf_I (by decide) h)
def f0_castShade (σ : St) (a1 : Int32) : St :=
  (f2_cast σ a1 (f0_firstAhead σ a1) (f0_lastAhead σ a1))
set_option maxHeartbeats 4000000 in
set_option maxRecDepth 100000 in
theorem bf0_castShade {X : CX} {Λ : LY} (C : OK X Λ cX0_castShade 2 RX0 3 69) {res : St} (E : EN X Λ none none res) (σ : St) (a1 : Int32) (hs : Safe σ) (h1 : vp_in a1 10) (hres : (f0_castShade σ a1) = res) : VV X Λ 2 0 [(0, .ref (adr Λ 1)), (1, .int (a1))] [] σ := by
  unfold f0_castShade at hres
  refine v_aload_n (pc2 := 1) C 0 dX0_castShade_0 rfl rfl ?_
  refine vg_X0_looks (pc2 := 4) C lf_X0_20 dX0_castShade_1 rfl ?_
  refine v_iload_n (pc2 := 5) C 1 dX0_castShade_4 rfl rfl ?_
  refine v_aload_n (pc2 := 6) C 0 dX0_castShade_5 rfl rfl ?_
  refine v_iload_n (pc2 := 7) C 1 dX0_castShade_6 rfl rfl ?_
  refine v_cVi (pc2 := 10) C kc_X0_77 (mX0_firstAhead (xl X) Λ _ _) (wd1 Λ _) rfl (by decide) rfl rfl (Nat.le_of_ble_eq_true rfl) dX0_castShade_7 rfl ?_
  refine v_aload_n (pc2 := 11) C 0 dX0_castShade_10 rfl rfl ?_
  refine v_iload_n (pc2 := 12) C 1 dX0_castShade_11 rfl rfl ?_
  refine v_cVi (pc2 := 15) C kc_X0_81 (mX0_lastAhead (xl X) Λ _ _) (wd1 Λ _) rfl (by decide) rfl rfl (Nat.le_of_ble_eq_true rfl) dX0_castShade_12 rfl ?_
  refine v_cVv (pc2 := 18) C kc_X0_87 (mX2_cast (xl X) Λ _ _ _ _ hs h1 (fa_rg h1) (la_rg hs h1)) (wd10 Λ _) rfl (by decide) rfl rfl (Nat.le_of_ble_eq_true rfl) dX0_castShade_15 rfl ?_
  exact r_vS C E hres dX0_castShade_18
theorem mX0_castShade (l : Launch) (Λ : LY) (σ : St) (a1 : Int32) (hs : Safe σ) (h1 : vp_in a1 10) : CT l Λ yX0_castShade cX0_castShade 2 none 3 69 [.ref (adr Λ 1), .int (a1)] σ none (f0_castShade σ a1) := by
  refine CT_of (by decide +kernel) (Nat.le_of_ble_eq_true rfl) ?_
  intro X hX C E
  obtain ⟨res, hres⟩ : ∃ r, (f0_castShade σ a1) = r := ⟨_, rfl⟩
  rw [hres] at E
  exact bf0_castShade C E _ _  hs h1 hres
theorem sX0_castShade {σ : St} {a : Int32} (h : Safe σ) : Safe (f0_castShade σ a) := sX2_cast h
def f0_weigh_C (σ : St) (a1 : Int32) : St :=
  (uA (uB (uB σ 0 (Int32.toNatClampNeg a1) (((Int32.toInt64 ((3 : Int32) - (fJ_bitCount (f2_darkGroups σ a1)))) * (f2_stretch σ a1)) / (3000000 : Int64))) 1 (Int32.toNatClampNeg a1) (((gB (uB σ 0 (Int32.toNatClampNeg a1) (((Int32.toInt64 ((3 : Int32) - (fJ_bitCount (f2_darkGroups σ a1)))) * (f2_stretch σ a1)) / (3000000 : Int64))) 0 (Int32.toNatClampNeg a1)) * (Int32.toInt64 (gA (uB σ 0 (Int32.toNatClampNeg a1) (((Int32.toInt64 ((3 : Int32) - (fJ_bitCount (f2_darkGroups σ a1)))) * (f2_stretch σ a1)) / (3000000 : Int64))) 14 (Int32.toNatClampNeg a1)))) / (1000 : Int64))) 1 (Int32.toNatClampNeg a1) (Int64.toInt32 ((gB (uB (uB σ 0 (Int32.toNatClampNeg a1) (((Int32.toInt64 ((3 : Int32) - (fJ_bitCount (f2_darkGroups σ a1)))) * (f2_stretch σ a1)) / (3000000 : Int64))) 1 (Int32.toNatClampNeg a1) (((gB (uB σ 0 (Int32.toNatClampNeg a1) (((Int32.toInt64 ((3 : Int32) - (fJ_bitCount (f2_darkGroups σ a1)))) * (f2_stretch σ a1)) / (3000000 : Int64))) 0 (Int32.toNatClampNeg a1)) * (Int32.toInt64 (gA (uB σ 0 (Int32.toNatClampNeg a1) (((Int32.toInt64 ((3 : Int32) - (fJ_bitCount (f2_darkGroups σ a1)))) * (f2_stretch σ a1)) / (3000000 : Int64))) 14 (Int32.toNatClampNeg a1)))) / (1000 : Int64))) 0 (Int32.toNatClampNeg a1)) - (gB (uB (uB σ 0 (Int32.toNatClampNeg a1) (((Int32.toInt64 ((3 : Int32) - (fJ_bitCount (f2_darkGroups σ a1)))) * (f2_stretch σ a1)) / (3000000 : Int64))) 1 (Int32.toNatClampNeg a1) (((gB (uB σ 0 (Int32.toNatClampNeg a1) (((Int32.toInt64 ((3 : Int32) - (fJ_bitCount (f2_darkGroups σ a1)))) * (f2_stretch σ a1)) / (3000000 : Int64))) 0 (Int32.toNatClampNeg a1)) * (Int32.toInt64 (gA (uB σ 0 (Int32.toNatClampNeg a1) (((Int32.toInt64 ((3 : Int32) - (fJ_bitCount (f2_darkGroups σ a1)))) * (f2_stretch σ a1)) / (3000000 : Int64))) 14 (Int32.toNatClampNeg a1)))) / (1000 : Int64))) 1 (Int32.toNatClampNeg a1)))))
set_option maxHeartbeats 4000000 in
set_option maxRecDepth 100000 in
theorem bf0_weigh_C {X : CX} {Λ : LY} (C : OK X Λ cX0_weigh 3 RX0 4 90) {res : St} (E : EN X Λ none none res) (σ : St) (a1 : Int32) (hs : Safe σ) (h1 : vp_in a1 10) (hres : (f0_weigh_C σ a1) = res) : VV X Λ 3 38 [(0, .ref (adr Λ 1)), (1, .int (a1))] [] σ := by
  unfold f0_weigh_C at hres
  refine v_iconst (pc2 := 39) C dX0_weigh_38 ki_3 rfl ?_
  refine v_aload_n (pc2 := 40) C 0 dX0_weigh_39 rfl rfl ?_
  refine vg_X0_looks (pc2 := 43) C lf_X0_20 dX0_weigh_40 rfl ?_
  refine v_iload_n (pc2 := 44) C 1 dX0_weigh_43 rfl rfl ?_
  refine v_cVi (pc2 := 47) C kc_X0_98 (mX2_darkGroups (xl X) Λ _ _ hs h1) (wd10 Λ _) rfl (by decide) rfl rfl (Nat.le_of_ble_eq_true rfl) dX0_weigh_44 rfl ?_
  refine v_cSi (pc2 := 50) C kc_X0_101 (mJ6_bitCount_0f7a4 (xl X) Λ _ _) (by decide) rfl rfl (Nat.le_of_ble_eq_true rfl) dX0_weigh_47 rfl ?_
  refine v_isub (pc2 := 51) C dX0_weigh_50 rfl ?_
  refine v_istore_n (pc2 := 52) (lv2 := [(2, _), (0, _), (1, _)]) C dX0_weigh_51 (by decide) rfl rfl ?_
  refine v_aload_n (pc2 := 53) C 1 dX0_weigh_52 rfl rfl ?_
  refine vg_X0_unshaded (pc2 := 56) C lf_X0_24 dX0_weigh_53 rfl ?_
  refine v_iload_n (pc2 := 57) C 2 dX0_weigh_56 rfl rfl ?_
  refine v_iload_n (pc2 := 58) C 0 dX0_weigh_57 rfl rfl ?_
  refine v_i2l (pc2 := 59) C dX0_weigh_58 rfl ?_
  refine v_aload_n (pc2 := 60) C 1 dX0_weigh_59 rfl rfl ?_
  refine vg_X0_looks (pc2 := 63) C lf_X0_20 dX0_weigh_60 rfl ?_
  refine v_iload_n (pc2 := 64) C 2 dX0_weigh_63 rfl rfl ?_
  refine v_cVl (pc2 := 67) C kc_X0_106 (mX2_stretch (xl X) Λ _ _ h1) (wd10 Λ _) rfl (by decide) rfl rfl (Nat.le_of_ble_eq_true rfl) dX0_weigh_64 rfl ?_
  refine v_lmul (pc2 := 68) C dX0_weigh_67 rfl ?_
  refine v_ldc2 (pc2 := 71) C lc_X0_110 dX0_weigh_68 rfl ?_
  refine v_ldiv (pc2 := 72) C dX0_weigh_71 (by decide) rfl ?_
  refine as11 (pc2 := 73) C h1 dX0_weigh_72 rfl ?_
  refine v_aload_n (pc2 := 74) C 1 dX0_weigh_73 rfl rfl ?_
  refine vg_X0_taken (pc2 := 77) C lf_X0_28 dX0_weigh_74 rfl ?_
  refine v_iload_n (pc2 := 78) C 2 dX0_weigh_77 rfl rfl ?_
  refine v_aload_n (pc2 := 79) C 1 dX0_weigh_78 rfl rfl ?_
  refine vg_X0_unshaded (pc2 := 82) C lf_X0_24 dX0_weigh_79 rfl ?_
  refine v_iload_n (pc2 := 83) C 2 dX0_weigh_82 rfl rfl ?_
  refine al11 (pc2 := 84) C h1 dX0_weigh_83 rfl ?_
  refine v_aload_n (pc2 := 85) C 1 dX0_weigh_84 rfl rfl ?_
  refine vg_X0_rows (pc2 := 88) C lf_X0_11 dX0_weigh_85 rfl ?_
  refine v_iload_n (pc2 := 89) C 2 dX0_weigh_88 rfl rfl ?_
  have in89 : vp_in a1 10 := h1
  refine v_aald (pc2 := 90) C in89 dX0_weigh_89 rfl ?_
  refine vg_X3_dirt (pc2 := 93) C (vlt in89) lf_X0_112 dX0_weigh_90 rfl ?_
  refine v_i2l (pc2 := 94) C dX0_weigh_93 rfl ?_
  refine v_lmul (pc2 := 95) C dX0_weigh_94 rfl ?_
  refine v_ldc2 (pc2 := 98) C lc_X0_115 dX0_weigh_95 rfl ?_
  refine v_ldiv (pc2 := 99) C dX0_weigh_98 (by decide) rfl ?_
  refine as12 (pc2 := 100) C h1 dX0_weigh_99 rfl ?_
  refine v_aload_n (pc2 := 101) C 1 dX0_weigh_100 rfl rfl ?_
  refine vg_X0_currents (pc2 := 104) C lf_X0_31 dX0_weigh_101 rfl ?_
  refine v_iload_n (pc2 := 105) C 2 dX0_weigh_104 rfl rfl ?_
  refine v_aload_n (pc2 := 106) C 1 dX0_weigh_105 rfl rfl ?_
  refine vg_X0_unshaded (pc2 := 109) C lf_X0_24 dX0_weigh_106 rfl ?_
  refine v_iload_n (pc2 := 110) C 2 dX0_weigh_109 rfl rfl ?_
  refine al11 (pc2 := 111) C h1 dX0_weigh_110 rfl ?_
  refine v_aload_n (pc2 := 112) C 1 dX0_weigh_111 rfl rfl ?_
  refine vg_X0_taken (pc2 := 115) C lf_X0_28 dX0_weigh_112 rfl ?_
  refine v_iload_n (pc2 := 116) C 2 dX0_weigh_115 rfl rfl ?_
  refine al12 (pc2 := 117) C h1 dX0_weigh_116 rfl ?_
  refine v_lsub (pc2 := 118) C dX0_weigh_117 rfl ?_
  refine v_l2i (pc2 := 119) C dX0_weigh_118 rfl ?_
  refine as13 (pc2 := 120) C h1 dX0_weigh_119 rfl ?_
  exact r_vS C E hres dX0_weigh_120
def f0_weigh_B (σ : St) (a1 : Int32) : St :=
  (f0_weigh_C (f0_castShade σ a1) a1)
set_option maxHeartbeats 4000000 in
set_option maxRecDepth 100000 in
theorem bf0_weigh_B {X : CX} {Λ : LY} (C : OK X Λ cX0_weigh 3 RX0 4 90) {res : St} (E : EN X Λ none none res) (σ : St) (a1 : Int32) (hs : Safe σ) (h1 : vp_in a1 10) (hres : (f0_weigh_B σ a1) = res) : VV X Λ 3 33 [(0, .ref (adr Λ 1)), (1, .int (a1))] [] σ := by
  unfold f0_weigh_B at hres
  refine v_aload_n (pc2 := 34) C 0 dX0_weigh_33 rfl rfl ?_
  refine v_iload_n (pc2 := 35) C 1 dX0_weigh_34 rfl rfl ?_
  refine v_cVv (pc2 := 38) C kc_X0_95 (mX0_castShade (xl X) Λ _ _ hs h1) (wd1 Λ _) rfl (by decide) rfl rfl (Nat.le_of_ble_eq_true rfl) dX0_weigh_35 rfl ?_
  exact v_lv [0, 1] rfl (bf0_weigh_C C E _ _ (sX0_castShade hs) h1  hres)
def f0_weigh (σ : St) (a1 : Int32) : St :=
  (if (f2_isLit (uA (uB (uB σ 0 (Int32.toNatClampNeg a1) (0 : Int64)) 1 (Int32.toNatClampNeg a1) (0 : Int64)) 1 (Int32.toNatClampNeg a1) (0 : Int32)) a1) = (0 : Int32) then (uA (uB (uB σ 0 (Int32.toNatClampNeg a1) (0 : Int64)) 1 (Int32.toNatClampNeg a1) (0 : Int64)) 1 (Int32.toNatClampNeg a1) (0 : Int32)) else (f0_weigh_B (uA (uB (uB σ 0 (Int32.toNatClampNeg a1) (0 : Int64)) 1 (Int32.toNatClampNeg a1) (0 : Int64)) 1 (Int32.toNatClampNeg a1) (0 : Int32)) a1))
set_option maxHeartbeats 4000000 in
set_option maxRecDepth 100000 in
theorem bf0_weigh {X : CX} {Λ : LY} (C : OK X Λ cX0_weigh 3 RX0 4 90) {res : St} (E : EN X Λ none none res) (σ : St) (a1 : Int32) (hs : Safe σ) (h1 : vp_in a1 10) (hres : (f0_weigh σ a1) = res) : VV X Λ 3 0 [(0, .ref (adr Λ 1)), (1, .int (a1))] [] σ := by
  unfold f0_weigh at hres
  refine v_aload_n (pc2 := 1) C 0 dX0_weigh_0 rfl rfl ?_
  refine vg_X0_unshaded (pc2 := 4) C lf_X0_24 dX0_weigh_1 rfl ?_
  refine v_iload_n (pc2 := 5) C 1 dX0_weigh_4 rfl rfl ?_
  refine v_lconst (pc2 := 6) C dX0_weigh_5 kl_0 rfl ?_
  refine as11 (pc2 := 7) C h1 dX0_weigh_6 rfl ?_
  refine v_aload_n (pc2 := 8) C 0 dX0_weigh_7 rfl rfl ?_
  refine vg_X0_taken (pc2 := 11) C lf_X0_28 dX0_weigh_8 rfl ?_
  refine v_iload_n (pc2 := 12) C 1 dX0_weigh_11 rfl rfl ?_
  refine v_lconst (pc2 := 13) C dX0_weigh_12 kl_0 rfl ?_
  refine as12 (pc2 := 14) C h1 dX0_weigh_13 rfl ?_
  refine v_aload_n (pc2 := 15) C 0 dX0_weigh_14 rfl rfl ?_
  refine vg_X0_currents (pc2 := 18) C lf_X0_31 dX0_weigh_15 rfl ?_
  refine v_iload_n (pc2 := 19) C 1 dX0_weigh_18 rfl rfl ?_
  refine v_iconst (pc2 := 20) C dX0_weigh_19 ki_0 rfl ?_
  refine as13 (pc2 := 21) C h1 dX0_weigh_20 rfl ?_
  refine v_aload_n (pc2 := 22) C 0 dX0_weigh_21 rfl rfl ?_
  refine vg_X0_looks (pc2 := 25) C lf_X0_20 dX0_weigh_22 rfl ?_
  refine v_iload_n (pc2 := 26) C 1 dX0_weigh_25 rfl rfl ?_
  refine v_cVi (pc2 := 29) C kc_X0_74 (mX2_isLit (xl X) Λ _ _ h1) (wd10 Λ _) rfl (by decide) rfl rfl (Nat.le_of_ble_eq_true rfl) dX0_weigh_26 rfl ?_
  refine v_ifne (pc2 := 33) (pc3 := 32) C dX0_weigh_29 rfl rfl (fun h29 => ?_) (fun h29 => ?_)
  · have hres := (if_neg h29).symm.trans hres
    exact v_lv [0, 1] rfl (bf0_weigh_B C E _ _ (sf_A (by decide) (sf_B (sf_B hs))) h1  hres)
  · have hres := (if_pos h29).symm.trans hres
    exact r_vS C E hres dX0_weigh_32
theorem mX0_weigh (l : Launch) (Λ : LY) (σ : St) (a1 : Int32) (hs : Safe σ) (h1 : vp_in a1 10) : CT l Λ yX0_weigh cX0_weigh 3 none 4 90 [.ref (adr Λ 1), .int (a1)] σ none (f0_weigh σ a1) := by
  refine CT_of (by decide +kernel) (Nat.le_of_ble_eq_true rfl) ?_
  intro X hX C E
  obtain ⟨res, hres⟩ : ∃ r, (f0_weigh σ a1) = r := ⟨_, rfl⟩
  rw [hres] at E
  exact bf0_weigh C E _ _  hs h1 hres
theorem sX0_weigh {σ : St} {a : Int32} (h : Safe σ) : Safe (f0_weigh σ a) := by
  have h1 : Safe (uA (uB (uB σ 0 (Int32.toNatClampNeg a) (0 : Int64)) 1 (Int32.toNatClampNeg a) (0 : Int64)) 1 (Int32.toNatClampNeg a) (0 : Int32)) := sf_A (by decide) (sf_B (sf_B h))
  unfold f0_weigh
  split
  · exact h1
  · unfold f0_weigh_B f0_weigh_C
    exact sf_A (by decide) (sf_B (sf_B (sX0_castShade h1)))
def f0_weighAll_L : Nat → St → Int32 → St
  | 0, σ, _ => (σ)
  | n + 1, σ, j => (if (gI σ 2) ≤ j then σ else (f0_weighAll_L n (f0_weigh σ j) (j + (1 : Int32))))
set_option maxHeartbeats 4000000 in
set_option maxRecDepth 100000 in
theorem bf0_weighAll_L {X : CX} {Λ : LY} (C : OK X Λ cX0_weighAll 2 RX0 5 112) {res : St} (E : EN X Λ none none res)  : ∀ (n : Nat) (σ : St) (j : Int32), (hs : Safe σ) → (hu : UP 10 j n) → (f0_weighAll_L n σ j) = res → VV X Λ 2 2 [(0, .ref (adr Λ 1)), (1, .int (j))] [] σ := by
  intro n
  induction n with
  | zero => intro σ j hs hu hres; exact absurd hu (fun h => h.z)
  | succ n ih =>
    intro σ j hs hu hres
    rw [f0_weighAll_L] at hres
    refine v_iload_n (pc2 := 3) C 1 dX0_weighAll_2 rfl rfl ?_
    refine v_aload_n (pc2 := 4) C 0 dX0_weighAll_3 rfl rfl ?_
    refine vg_X0_count (pc2 := 7) C lf_X0_35 dX0_weighAll_4 rfl ?_
    refine v_icmpge (pc2 := 21) (pc3 := 10) C dX0_weighAll_7 rfl rfl (fun h7 => ?_) (fun h7 => ?_)
    · have hres := (if_pos h7).symm.trans hres
      exact r_vS C E hres dX0_weighAll_21
    · have hres := (if_neg h7).symm.trans hres
      refine v_aload_n (pc2 := 11) C 0 dX0_weighAll_10 rfl rfl ?_
      refine v_iload_n (pc2 := 12) C 1 dX0_weighAll_11 rfl rfl ?_
      refine v_cVv (pc2 := 15) C kc_X0_91 (mX0_weigh (xl X) Λ _ _ hs (hu.in h7 hs.cnt.2)) (wd1 Λ _) rfl (by decide) rfl rfl (Nat.le_of_ble_eq_true rfl) dX0_weighAll_12 rfl ?_
      refine v_iinc (pc2 := 18) (lv2 := [(1, _), (0, _)]) C 1 dX0_weighAll_15 rfl ki_1 (by decide) rfl rfl ?_
      refine v_goto (pc2 := 2) C dX0_weighAll_18 rfl ?_
      exact v_lv [1, 0] rfl (ih _ _ (sX0_weigh hs) (hu.step h7 hs.cnt.2 (by decide)) hres)
def f0_weighAll (σ : St) : St :=
  (f0_weighAll_L 11 σ (0 : Int32))
set_option maxHeartbeats 4000000 in
set_option maxRecDepth 100000 in
theorem bf0_weighAll {X : CX} {Λ : LY} (C : OK X Λ cX0_weighAll 2 RX0 5 112) {res : St} (E : EN X Λ none none res) (σ : St) (hs : Safe σ) (hres : (f0_weighAll σ) = res) : VV X Λ 2 0 [(0, .ref (adr Λ 1))] [] σ := by
  unfold f0_weighAll at hres
  refine v_iconst (pc2 := 1) C dX0_weighAll_0 ki_0 rfl ?_
  refine v_istore_n (pc2 := 2) (lv2 := [(1, _), (0, _)]) C dX0_weighAll_1 (by decide) rfl rfl ?_
  exact v_lv [1, 0] rfl (bf0_weighAll_L C E  11 _ _ hs UP.start  hres)
theorem mX0_weighAll (l : Launch) (Λ : LY) (σ : St) (hs : Safe σ) : CT l Λ yX0_weighAll cX0_weighAll 2 none 5 112 [.ref (adr Λ 1)] σ none (f0_weighAll σ) := by
  refine CT_of (by decide +kernel) (Nat.le_of_ble_eq_true rfl) ?_
  intro X hX C E
  obtain ⟨res, hres⟩ : ∃ r, (f0_weighAll σ) = r := ⟨_, rfl⟩
  rw [hres] at E
  exact bf0_weighAll C E _  hs hres
theorem sX0_weighAll_L  : ∀ (n : Nat) (σ : St) (j : Int32), Safe σ → Safe (f0_weighAll_L n σ j) := by
  intro n
  induction n with
  | zero => intro σ j h; exact h
  | succ n ih =>
    intro σ j h
    rw [f0_weighAll_L]
    repeat' split
    all_goals first | exact h | (refine ih _ _ ?_; repeat' (first | assumption | apply sX0_weigh))
theorem sX0_weighAll {σ : St} (h : Safe σ) : Safe (f0_weighAll σ) := sX0_weighAll_L _ _ _ h
def f0_turnTo_L (a1 : Int32) (a2 : Int32) : Nat → St → Int32 → St
  | 0, σ, _ => (σ)
  | n + 1, σ, j => (if (gI σ 2) ≤ j then σ else (if (gA σ 10 (Int32.toNatClampNeg j)) = (1 : Int32) then (f0_turnTo_L a1 a2 n σ (j + (1 : Int32))) else (if (gA σ 10 (Int32.toNatClampNeg j)) = (2 : Int32) then (f0_turnTo_L a1 a2 n (uA σ 15 (Int32.toNatClampNeg j) a2) (j + (1 : Int32))) else (f0_turnTo_L a1 a2 n (uA σ 15 (Int32.toNatClampNeg j) a1) (j + (1 : Int32))))))
set_option maxHeartbeats 4000000 in
set_option maxRecDepth 100000 in
theorem bf0_turnTo_L {X : CX} {Λ : LY} (C : OK X Λ cX0_turnTo 5 RX0 0 0) {res : St} (E : EN X Λ none none res) (a1 : Int32) (a2 : Int32)  : ∀ (n : Nat) (σ : St) (j : Int32), (hs : Safe σ) → (ha : -12 ≤ a1.toInt ∧ a1.toInt ≤ 12) → (hb : -12 ≤ a2.toInt ∧ a2.toInt ≤ 12) → (hu : UP 10 j n) → (f0_turnTo_L a1 a2 n σ j) = res → VV X Λ 5 2 [(0, .ref (adr Λ 1)), (1, .int (a1)), (2, .int (a2)), (3, .int (j))] [] σ := by
  intro n
  induction n with
  | zero => intro σ j hs ha hb hu hres; exact absurd hu (fun h => h.z)
  | succ n ih =>
    intro σ j hs ha hb hu hres
    rw [f0_turnTo_L] at hres
    refine v_iload_n (pc2 := 3) C 3 dX0_turnTo_2 rfl rfl ?_
    refine v_aload_n (pc2 := 4) C 0 dX0_turnTo_3 rfl rfl ?_
    refine vg_X0_count (pc2 := 7) C lf_X0_35 dX0_turnTo_4 rfl ?_
    refine v_icmpge (pc2 := 52) (pc3 := 10) C dX0_turnTo_7 rfl rfl (fun h7 => ?_) (fun h7 => ?_)
    · have hres := (if_pos h7).symm.trans hres
      exact r_vS C E hres dX0_turnTo_52
    · have hres := (if_neg h7).symm.trans hres
      refine v_aload_n (pc2 := 11) C 0 dX0_turnTo_10 rfl rfl ?_
      refine vg_X0_rows (pc2 := 14) C lf_X0_11 dX0_turnTo_11 rfl ?_
      refine v_iload_n (pc2 := 15) C 3 dX0_turnTo_14 rfl rfl ?_
      have in15 : vp_in j 10 := hu.in h7 hs.cnt.2
      refine v_aald (pc2 := 16) C in15 dX0_turnTo_15 rfl ?_
      refine v_astore (pc2 := 18) (lv2 := [(4, _), (0, _), (1, _), (2, _), (3, _)]) C dX0_turnTo_16 (by decide) rfl rfl ?_
      refine v_aload (pc2 := 20) C 0 dX0_turnTo_18 rfl rfl ?_
      refine vg_X3_kind (pc2 := 23) C (vlt in15) lf_X0_64 dX0_turnTo_20 rfl ?_
      refine v_iconst (pc2 := 24) C dX0_turnTo_23 ki_1 rfl ?_
      refine v_icmpeq (pc2 := 46) (pc3 := 27) C dX0_turnTo_24 rfl rfl (fun h24 => ?_) (fun h24 => ?_)
      · have hres := (if_pos h24).symm.trans hres
        refine v_iinc (pc2 := 49) (lv2 := [(3, _), (4, _), (0, _), (1, _), (2, _)]) C 4 dX0_turnTo_46 rfl ki_1 (by decide) rfl rfl ?_
        refine v_goto (pc2 := 2) C dX0_turnTo_49 rfl ?_
        exact v_lv [2, 3, 4, 0] rfl (ih _ _ hs ha hb (hu.step h7 hs.cnt.2 (by decide)) hres)
      · have hres := (if_neg h24).symm.trans hres
        refine v_aload (pc2 := 29) C 0 dX0_turnTo_27 rfl rfl ?_
        refine v_aload (pc2 := 31) C 0 dX0_turnTo_29 rfl rfl ?_
        refine vg_X3_kind (pc2 := 34) C (vlt in15) lf_X0_64 dX0_turnTo_31 rfl ?_
        refine v_iconst (pc2 := 35) C dX0_turnTo_34 ki_2 rfl ?_
        refine v_icmpne (pc2 := 42) (pc3 := 38) C dX0_turnTo_35 rfl rfl (fun h35 => ?_) (fun h35 => ?_)
        · have hres := (if_neg h35).symm.trans hres
          refine v_iload_n (pc2 := 43) C 2 dX0_turnTo_42 rfl rfl ?_
          refine vp_X3_step (pc2 := 46) C (vlt in15) lf_X0_67 dX0_turnTo_43 rfl ?_
          refine v_iinc (pc2 := 49) (lv2 := [(3, _), (4, _), (0, _), (1, _), (2, _)]) C 4 dX0_turnTo_46 rfl ki_1 (by decide) rfl rfl ?_
          refine v_goto (pc2 := 2) C dX0_turnTo_49 rfl ?_
          exact v_lv [2, 3, 4, 0] rfl (ih _ _ (sf_A15 (by first | exact ha | exact hb) hs) ha hb (hu.step h7 hs.cnt.2 (by decide)) hres)
        · have hres := (if_pos h35).symm.trans hres
          refine v_iload_n (pc2 := 39) C 3 dX0_turnTo_38 rfl rfl ?_
          refine v_goto (pc2 := 43) C dX0_turnTo_39 rfl ?_
          refine vp_X3_step (pc2 := 46) C (vlt in15) lf_X0_67 dX0_turnTo_43 rfl ?_
          refine v_iinc (pc2 := 49) (lv2 := [(3, _), (4, _), (0, _), (1, _), (2, _)]) C 4 dX0_turnTo_46 rfl ki_1 (by decide) rfl rfl ?_
          refine v_goto (pc2 := 2) C dX0_turnTo_49 rfl ?_
          exact v_lv [2, 3, 4, 0] rfl (ih _ _ (sf_A15 (by first | exact ha | exact hb) hs) ha hb (hu.step h7 hs.cnt.2 (by decide)) hres)
def f0_turnTo (σ : St) (a1 : Int32) (a2 : Int32) : St :=
  (f0_turnTo_L a1 a2 11 σ (0 : Int32))
set_option maxHeartbeats 4000000 in
set_option maxRecDepth 100000 in
theorem bf0_turnTo {X : CX} {Λ : LY} (C : OK X Λ cX0_turnTo 5 RX0 0 0) {res : St} (E : EN X Λ none none res) (σ : St) (a1 : Int32) (a2 : Int32) (hs : Safe σ) (ha : -12 ≤ a1.toInt ∧ a1.toInt ≤ 12) (hb : -12 ≤ a2.toInt ∧ a2.toInt ≤ 12) (hres : (f0_turnTo σ a1 a2) = res) : VV X Λ 5 0 [(0, .ref (adr Λ 1)), (1, .int (a1)), (2, .int (a2))] [] σ := by
  unfold f0_turnTo at hres
  refine v_iconst (pc2 := 1) C dX0_turnTo_0 ki_0 rfl ?_
  refine v_istore_n (pc2 := 2) (lv2 := [(3, _), (0, _), (1, _), (2, _)]) C dX0_turnTo_1 (by decide) rfl rfl ?_
  exact v_lv [1, 2, 3, 0] rfl (bf0_turnTo_L C E _ _ 11 _ _ hs ha hb UP.start  hres)
theorem mX0_turnTo (l : Launch) (Λ : LY) (σ : St) (a1 : Int32) (a2 : Int32) (hs : Safe σ) (ha : -12 ≤ a1.toInt ∧ a1.toInt ≤ 12) (hb : -12 ≤ a2.toInt ∧ a2.toInt ≤ 12) : CT l Λ yX0_turnTo cX0_turnTo 5 none 0 0 [.ref (adr Λ 1), .int (a1), .int (a2)] σ none (f0_turnTo σ a1 a2) := by
  refine CT_of (by decide +kernel) (Nat.le_of_ble_eq_true rfl) ?_
  intro X hX C E
  obtain ⟨res, hres⟩ : ∃ r, (f0_turnTo σ a1 a2) = r := ⟨_, rfl⟩
  rw [hres] at E
  exact bf0_turnTo C E _ _ _  hs ha hb hres
theorem sX0_turnTo_L {a b : Int32} (ha : -12 ≤ a.toInt ∧ a.toInt ≤ 12) (hb : -12 ≤ b.toInt ∧ b.toInt ≤ 12) : ∀ (n : Nat) (σ : St) (j : Int32), Safe σ → Safe (f0_turnTo_L a b n σ j) := by
  intro n
  induction n with
  | zero => intro σ j h; exact h
  | succ n ih =>
    intro σ j h
    rw [f0_turnTo_L]
    repeat' split
    all_goals first | exact h | exact ih _ _ h | exact ih _ _ (sf_A15 ha h) | exact ih _ _ (sf_A15 hb h)
theorem sX0_turnTo {σ : St} {a b : Int32} (ha : -12 ≤ a.toInt ∧ a.toInt ≤ 12) (hb : -12 ≤ b.toInt ∧ b.toInt ≤ 12) (h : Safe σ) : Safe (f0_turnTo σ a b) := sX0_turnTo_L ha hb _ _ _ h
def f0_washAll_L : Nat → St → Int32 → St
  | 0, σ, _ => (σ)
  | n + 1, σ, j => (if (gI σ 2) ≤ j then σ else (f0_washAll_L n ((f3_loseDust σ (Int32.toNatClampNeg j)).2) (j + (1 : Int32))))
set_option maxHeartbeats 4000000 in
set_option maxRecDepth 100000 in
theorem bf0_washAll_L {X : CX} {Λ : LY} (C : OK X Λ cX0_washAll 2 RX0 1 21) {res : St} (E : EN X Λ none none res)  : ∀ (n : Nat) (σ : St) (j : Int32), (hs : Safe σ) → (hu : UP 10 j n) → (f0_washAll_L n σ j) = res → VV X Λ 2 2 [(0, .ref (adr Λ 1)), (1, .int (j))] [] σ := by
  intro n
  induction n with
  | zero => intro σ j hs hu hres; exact absurd hu (fun h => h.z)
  | succ n ih =>
    intro σ j hs hu hres
    rw [f0_washAll_L] at hres
    refine v_iload_n (pc2 := 3) C 1 dX0_washAll_2 rfl rfl ?_
    refine v_aload_n (pc2 := 4) C 0 dX0_washAll_3 rfl rfl ?_
    refine vg_X0_count (pc2 := 7) C lf_X0_35 dX0_washAll_4 rfl ?_
    refine v_icmpge (pc2 := 26) (pc3 := 10) C dX0_washAll_7 rfl rfl (fun h7 => ?_) (fun h7 => ?_)
    · have hres := (if_pos h7).symm.trans hres
      exact r_vS C E hres dX0_washAll_26
    · have hres := (if_neg h7).symm.trans hres
      refine v_aload_n (pc2 := 11) C 0 dX0_washAll_10 rfl rfl ?_
      refine vg_X0_rows (pc2 := 14) C lf_X0_11 dX0_washAll_11 rfl ?_
      refine v_iload_n (pc2 := 15) C 1 dX0_washAll_14 rfl rfl ?_
      have in15 : vp_in j 10 := hu.in h7 hs.cnt.2
      refine v_aald (pc2 := 16) C in15 dX0_washAll_15 rfl ?_
      refine v_cVi (pc2 := 19) C kc_X0_117 (mX3_loseDust (xl X) Λ _ _ (vlt in15)) (wdR Λ _ _ (vlt in15)) rfl (by decide) rfl rfl (Nat.le_of_ble_eq_true rfl) dX0_washAll_16 rfl ?_
      refine v_pop (pc2 := 20) C dX0_washAll_19 rfl rfl ?_
      refine v_iinc (pc2 := 23) (lv2 := [(1, _), (0, _)]) C 1 dX0_washAll_20 rfl ki_1 (by decide) rfl rfl ?_
      refine v_goto (pc2 := 2) C dX0_washAll_23 rfl ?_
      exact v_lv [1, 0] rfl (ih _ _ (sX3_loseDust hs) (hu.step h7 hs.cnt.2 (by decide)) hres)
def f0_washAll (σ : St) : St :=
  (f0_washAll_L 11 σ (0 : Int32))
set_option maxHeartbeats 4000000 in
set_option maxRecDepth 100000 in
theorem bf0_washAll {X : CX} {Λ : LY} (C : OK X Λ cX0_washAll 2 RX0 1 21) {res : St} (E : EN X Λ none none res) (σ : St) (hs : Safe σ) (hres : (f0_washAll σ) = res) : VV X Λ 2 0 [(0, .ref (adr Λ 1))] [] σ := by
  unfold f0_washAll at hres
  refine v_iconst (pc2 := 1) C dX0_washAll_0 ki_0 rfl ?_
  refine v_istore_n (pc2 := 2) (lv2 := [(1, _), (0, _)]) C dX0_washAll_1 (by decide) rfl rfl ?_
  exact v_lv [1, 0] rfl (bf0_washAll_L C E  11 _ _ hs UP.start  hres)
theorem mX0_washAll (l : Launch) (Λ : LY) (σ : St) (hs : Safe σ) : CT l Λ yX0_washAll cX0_washAll 2 none 1 21 [.ref (adr Λ 1)] σ none (f0_washAll σ) := by
  refine CT_of (by decide +kernel) (Nat.le_of_ble_eq_true rfl) ?_
  intro X hX C E
  obtain ⟨res, hres⟩ : ∃ r, (f0_washAll σ) = r := ⟨_, rfl⟩
  rw [hres] at E
  exact bf0_washAll C E _  hs hres
theorem sX0_washAll_L  : ∀ (n : Nat) (σ : St) (j : Int32), Safe σ → Safe (f0_washAll_L n σ j) := by
  intro n
  induction n with
  | zero => intro σ j h; exact h
  | succ n ih =>
    intro σ j h
    rw [f0_washAll_L]
    repeat' split
    all_goals first | exact h | (refine ih _ _ ?_; repeat' (first | assumption | apply sX3_loseDust))
theorem sX0_washAll {σ : St} (h : Safe σ) : Safe (f0_washAll σ) := sX0_washAll_L _ _ _ h
def f0_washRows_L (a1 : Int32) : Nat → St → Int32 → Int32 → Int32 × St
  | 0, σ, _, _ => (0, σ)
  | n + 1, σ, w, j => (if (gI σ 2) ≤ j then (w, σ) else (if ((a1 >>> (j &&& 31)) &&& (1 : Int32)) = (1 : Int32) then (if ((f3_loseDust σ (Int32.toNatClampNeg j)).1) = (0 : Int32) then (f0_washRows_L a1 n ((f3_loseDust σ (Int32.toNatClampNeg j)).2) w (j + (1 : Int32))) else (f0_washRows_L a1 n ((f3_loseDust σ (Int32.toNatClampNeg j)).2) (w + (1 : Int32)) (j + (1 : Int32)))) else (f0_washRows_L a1 n σ w (j + (1 : Int32)))))
set_option maxHeartbeats 4000000 in
set_option maxRecDepth 100000 in
theorem bf0_washRows_L {X : CX} {Λ : LY} (C : OK X Λ cX0_washRows 4 RX0 1 21) {res : Int32 × St} (E : EN X Λ (some .int) (some (.int res.1)) res.2) (a1 : Int32)  : ∀ (n : Nat) (σ : St) (w : Int32) (j : Int32), (hs : Safe σ) → (hu : UP 10 j n) → (f0_washRows_L a1 n σ w j) = res → VV X Λ 4 4 [(0, .ref (adr Λ 1)), (1, .int (a1)), (2, .int (w)), (3, .int (j))] [] σ := by
  intro n
  induction n with
  | zero => intro σ w j hs hu hres; exact absurd hu (fun h => h.z)
  | succ n ih =>
    intro σ w j hs hu hres
    rw [f0_washRows_L] at hres
    refine v_iload_n (pc2 := 5) C 3 dX0_washRows_4 rfl rfl ?_
    refine v_aload_n (pc2 := 6) C 0 dX0_washRows_5 rfl rfl ?_
    refine vg_X0_count (pc2 := 9) C lf_X0_35 dX0_washRows_6 rfl ?_
    refine v_icmpge (pc2 := 42) (pc3 := 12) C dX0_washRows_9 rfl rfl (fun h9 => ?_) (fun h9 => ?_)
    · have hres := (if_pos h9).symm.trans hres
      refine v_iload_n (pc2 := 43) C 2 dX0_washRows_42 rfl rfl ?_
      exact r_iS C E hres dX0_washRows_43
    · have hres := (if_neg h9).symm.trans hres
      refine v_iload_n (pc2 := 13) C 1 dX0_washRows_12 rfl rfl ?_
      refine v_iload_n (pc2 := 14) C 3 dX0_washRows_13 rfl rfl ?_
      refine v_ishr (pc2 := 15) C dX0_washRows_14 rfl ?_
      refine v_iconst (pc2 := 16) C dX0_washRows_15 ki_1 rfl ?_
      refine v_iand (pc2 := 17) C dX0_washRows_16 rfl ?_
      refine v_iconst (pc2 := 18) C dX0_washRows_17 ki_1 rfl ?_
      refine v_icmpne (pc2 := 36) (pc3 := 21) C dX0_washRows_18 rfl rfl (fun h18 => ?_) (fun h18 => ?_)
      · have hres := (if_neg h18).symm.trans hres
        refine v_iinc (pc2 := 39) (lv2 := [(3, _), (0, _), (1, _), (2, _)]) C 3 dX0_washRows_36 rfl ki_1 (by decide) rfl rfl ?_
        refine v_goto (pc2 := 4) C dX0_washRows_39 rfl ?_
        exact v_lv [1, 2, 3, 0] rfl (ih _ _ _ hs (hu.step h9 hs.cnt.2 (by decide)) hres)
      · have hres := (if_pos h18).symm.trans hres
        refine v_aload_n (pc2 := 22) C 0 dX0_washRows_21 rfl rfl ?_
        refine vg_X0_rows (pc2 := 25) C lf_X0_11 dX0_washRows_22 rfl ?_
        refine v_iload_n (pc2 := 26) C 3 dX0_washRows_25 rfl rfl ?_
        have in26 : vp_in j 10 := hu.in h9 hs.cnt.2
        refine v_aald (pc2 := 27) C in26 dX0_washRows_26 rfl ?_
        refine v_cVi (pc2 := 30) C kc_X0_117 (mX3_loseDust (xl X) Λ _ _ (vlt in26)) (wdR Λ _ _ (vlt in26)) rfl (by decide) rfl rfl (Nat.le_of_ble_eq_true rfl) dX0_washRows_27 rfl ?_
        refine v_ifeq (pc2 := 36) (pc3 := 33) C dX0_washRows_30 rfl rfl (fun h30 => ?_) (fun h30 => ?_)
        · have hres := (if_pos h30).symm.trans hres
          refine v_iinc (pc2 := 39) (lv2 := [(3, _), (0, _), (1, _), (2, _)]) C 3 dX0_washRows_36 rfl ki_1 (by decide) rfl rfl ?_
          refine v_goto (pc2 := 4) C dX0_washRows_39 rfl ?_
          exact v_lv [1, 2, 3, 0] rfl (ih _ _ _ (sX3_loseDust hs) (hu.step h9 hs.cnt.2 (by decide)) hres)
        · have hres := (if_neg h30).symm.trans hres
          refine v_iinc (pc2 := 36) (lv2 := [(2, _), (0, _), (1, _), (3, _)]) C 2 dX0_washRows_33 rfl ki_1 (by decide) rfl rfl ?_
          refine v_iinc (pc2 := 39) (lv2 := [(3, _), (2, _), (0, _), (1, _)]) C 3 dX0_washRows_36 rfl ki_1 (by decide) rfl rfl ?_
          refine v_goto (pc2 := 4) C dX0_washRows_39 rfl ?_
          exact v_lv [2, 3, 1, 0] rfl (ih _ _ _ (sX3_loseDust hs) (hu.step h9 hs.cnt.2 (by decide)) hres)
def f0_washRows (σ : St) (a1 : Int32) : Int32 × St :=
  (f0_washRows_L a1 11 σ (0 : Int32) (0 : Int32))
set_option maxHeartbeats 4000000 in
set_option maxRecDepth 100000 in
theorem bf0_washRows {X : CX} {Λ : LY} (C : OK X Λ cX0_washRows 4 RX0 1 21) {res : Int32 × St} (E : EN X Λ (some .int) (some (.int res.1)) res.2) (σ : St) (a1 : Int32) (hs : Safe σ) (hres : (f0_washRows σ a1) = res) : VV X Λ 4 0 [(0, .ref (adr Λ 1)), (1, .int (a1))] [] σ := by
  unfold f0_washRows at hres
  refine v_iconst (pc2 := 1) C dX0_washRows_0 ki_0 rfl ?_
  refine v_istore_n (pc2 := 2) (lv2 := [(2, _), (0, _), (1, _)]) C dX0_washRows_1 (by decide) rfl rfl ?_
  refine v_iconst (pc2 := 3) C dX0_washRows_2 ki_0 rfl ?_
  refine v_istore_n (pc2 := 4) (lv2 := [(3, _), (2, _), (0, _), (1, _)]) C dX0_washRows_3 (by decide) rfl rfl ?_
  exact v_lv [2, 3, 1, 0] rfl (bf0_washRows_L C E _ 11 _ _ _ hs UP.start  hres)
theorem mX0_washRows (l : Launch) (Λ : LY) (σ : St) (a1 : Int32) (hs : Safe σ) : CT l Λ yX0_washRows cX0_washRows 4 (some .int) 1 21 [.ref (adr Λ 1), .int (a1)] σ (some (.int (f0_washRows σ a1).1)) (f0_washRows σ a1).2 := by
  refine CT_of (by decide +kernel) (Nat.le_of_ble_eq_true rfl) ?_
  intro X hX C E
  obtain ⟨res, hres⟩ : ∃ r, (f0_washRows σ a1) = r := ⟨_, rfl⟩
  rw [hres] at E
  exact bf0_washRows C E _ _  hs hres
theorem sX0_washRows_L {a : Int32} : ∀ (n : Nat) (σ : St) (w : Int32) (j : Int32), Safe σ → Safe (f0_washRows_L a n σ w j).2 := by
  intro n
  induction n with
  | zero => intro σ w j h; exact h
  | succ n ih =>
    intro σ w j h
    rw [f0_washRows_L]
    repeat' split
    all_goals first | exact h | (refine ih _ _ _ ?_; repeat' (first | assumption | apply sX3_loseDust))
theorem sX0_washRows {σ : St} {a : Int32} (h : Safe σ) : Safe (f0_washRows σ a).2 := sX0_washRows_L _ _ _ _ h
def f0_addDust_L (a1 : Int32) : Nat → St → Int32 → Int32 → Int32 × St
  | 0, σ, _, _ => (0, σ)
  | n + 1, σ, w, j => (if (gI σ 2) ≤ j then (w, σ) else (f0_addDust_L a1 n (uA σ 14 (Int32.toNatClampNeg j) (if ((gA σ 14 (Int32.toNatClampNeg j)) + a1) < (1000 : Int32) then ((gA σ 14 (Int32.toNatClampNeg j)) + a1) else (1000 : Int32))) (w + (gA (uA σ 14 (Int32.toNatClampNeg j) (if ((gA σ 14 (Int32.toNatClampNeg j)) + a1) < (1000 : Int32) then ((gA σ 14 (Int32.toNatClampNeg j)) + a1) else (1000 : Int32))) 14 (Int32.toNatClampNeg j))) (j + (1 : Int32))))
set_option maxHeartbeats 4000000 in
set_option maxRecDepth 100000 in
theorem bf0_addDust_L {X : CX} {Λ : LY} (C : OK X Λ cX0_addDust 4 RX0 1 23) {res : Int32 × St} (E : EN X Λ (some .int) (some (.int res.1)) res.2) (a1 : Int32)  : ∀ (n : Nat) (σ : St) (w : Int32) (j : Int32), (hs : Safe σ) → (hu : UP 10 j n) → (f0_addDust_L a1 n σ w j) = res → VV X Λ 4 4 [(0, .ref (adr Λ 1)), (1, .int (a1)), (2, .int (w)), (3, .int (j))] [] σ := by
  intro n
  induction n with
  | zero => intro σ w j hs hu hres; exact absurd hu (fun h => h.z)
  | succ n ih =>
    intro σ w j hs hu hres
    rw [f0_addDust_L] at hres
    refine v_iload_n (pc2 := 5) C 3 dX0_addDust_4 rfl rfl ?_
    refine v_aload_n (pc2 := 6) C 0 dX0_addDust_5 rfl rfl ?_
    refine vg_X0_count (pc2 := 9) C lf_X0_35 dX0_addDust_6 rfl ?_
    refine v_icmpge (pc2 := 56) (pc3 := 12) C dX0_addDust_9 rfl rfl (fun h9 => ?_) (fun h9 => ?_)
    · have hres := (if_pos h9).symm.trans hres
      refine v_iload_n (pc2 := 57) C 2 dX0_addDust_56 rfl rfl ?_
      exact r_iS C E hres dX0_addDust_57
    · have hres := (if_neg h9).symm.trans hres
      refine v_aload_n (pc2 := 13) C 0 dX0_addDust_12 rfl rfl ?_
      refine vg_X0_rows (pc2 := 16) C lf_X0_11 dX0_addDust_13 rfl ?_
      refine v_iload_n (pc2 := 17) C 3 dX0_addDust_16 rfl rfl ?_
      have in17 : vp_in j 10 := hu.in h9 hs.cnt.2
      refine v_aald (pc2 := 18) C in17 dX0_addDust_17 rfl ?_
      refine v_sipush (pc2 := 21) C dX0_addDust_18 ks_1000 rfl ?_
      refine v_aload_n (pc2 := 22) C 0 dX0_addDust_21 rfl rfl ?_
      refine vg_X0_rows (pc2 := 25) C lf_X0_11 dX0_addDust_22 rfl ?_
      refine v_iload_n (pc2 := 26) C 3 dX0_addDust_25 rfl rfl ?_
      have in26 : vp_in j 10 := hu.in h9 hs.cnt.2
      refine v_aald (pc2 := 27) C in26 dX0_addDust_26 rfl ?_
      refine vg_X3_dirt (pc2 := 30) C (vlt in26) lf_X0_112 dX0_addDust_27 rfl ?_
      refine v_iload_n (pc2 := 31) C 1 dX0_addDust_30 rfl rfl ?_
      refine v_iadd (pc2 := 32) C dX0_addDust_31 rfl ?_
      refine v_mmin (pc2 := 35) C ml_X0_121 ms_mmin mi_Math mc_mmin (by decide) (Nat.le_of_ble_eq_true rfl) dX0_addDust_32 rfl ?_
      refine vp_X3_dirt (pc2 := 38) C (vlt in17) lf_X0_112 dX0_addDust_35 rfl ?_
      refine v_iload_n (pc2 := 39) C 2 dX0_addDust_38 rfl rfl ?_
      refine v_aload_n (pc2 := 40) C 0 dX0_addDust_39 rfl rfl ?_
      refine vg_X0_rows (pc2 := 43) C lf_X0_11 dX0_addDust_40 rfl ?_
      refine v_iload_n (pc2 := 44) C 3 dX0_addDust_43 rfl rfl ?_
      have in44 : vp_in j 10 := hu.in h9 hs.cnt.2
      refine v_aald (pc2 := 45) C in44 dX0_addDust_44 rfl ?_
      refine vg_X3_dirt (pc2 := 48) C (vlt in44) lf_X0_112 dX0_addDust_45 rfl ?_
      refine v_iadd (pc2 := 49) C dX0_addDust_48 rfl ?_
      refine v_istore_n (pc2 := 50) (lv2 := [(2, _), (0, _), (1, _), (3, _)]) C dX0_addDust_49 (by decide) rfl rfl ?_
      refine v_iinc (pc2 := 53) (lv2 := [(3, _), (2, _), (0, _), (1, _)]) C 3 dX0_addDust_50 rfl ki_1 (by decide) rfl rfl ?_
      refine v_goto (pc2 := 4) C dX0_addDust_53 rfl ?_
      exact v_lv [2, 3, 1, 0] rfl (ih _ _ _ (sf_A (by decide) hs) (hu.step h9 hs.cnt.2 (by decide)) hres)
def f0_addDust (σ : St) (a1 : Int32) : Int32 × St :=
  (f0_addDust_L a1 11 σ (0 : Int32) (0 : Int32))
set_option maxHeartbeats 4000000 in
set_option maxRecDepth 100000 in
theorem bf0_addDust {X : CX} {Λ : LY} (C : OK X Λ cX0_addDust 4 RX0 1 23) {res : Int32 × St} (E : EN X Λ (some .int) (some (.int res.1)) res.2) (σ : St) (a1 : Int32) (hs : Safe σ) (hres : (f0_addDust σ a1) = res) : VV X Λ 4 0 [(0, .ref (adr Λ 1)), (1, .int (a1))] [] σ := by
  unfold f0_addDust at hres
  refine v_iconst (pc2 := 1) C dX0_addDust_0 ki_0 rfl ?_
  refine v_istore_n (pc2 := 2) (lv2 := [(2, _), (0, _), (1, _)]) C dX0_addDust_1 (by decide) rfl rfl ?_
  refine v_iconst (pc2 := 3) C dX0_addDust_2 ki_0 rfl ?_
  refine v_istore_n (pc2 := 4) (lv2 := [(3, _), (2, _), (0, _), (1, _)]) C dX0_addDust_3 (by decide) rfl rfl ?_
  exact v_lv [2, 3, 1, 0] rfl (bf0_addDust_L C E _ 11 _ _ _ hs UP.start  hres)
theorem mX0_addDust (l : Launch) (Λ : LY) (σ : St) (a1 : Int32) (hs : Safe σ) : CT l Λ yX0_addDust cX0_addDust 4 (some .int) 1 23 [.ref (adr Λ 1), .int (a1)] σ (some (.int (f0_addDust σ a1).1)) (f0_addDust σ a1).2 := by
  refine CT_of (by decide +kernel) (Nat.le_of_ble_eq_true rfl) ?_
  intro X hX C E
  obtain ⟨res, hres⟩ : ∃ r, (f0_addDust σ a1) = r := ⟨_, rfl⟩
  rw [hres] at E
  exact bf0_addDust C E _ _  hs hres
theorem sX0_addDust_L {a : Int32} : ∀ (n : Nat) (σ : St) (w : Int32) (j : Int32), Safe σ → Safe (f0_addDust_L a n σ w j).2 := by
  intro n
  induction n with
  | zero => intro σ w j h; exact h
  | succ n ih =>
    intro σ w j h
    rw [f0_addDust_L]
    repeat' split
    all_goals first | exact h | (refine ih _ _ _ ?_; repeat' (first | assumption | apply sf_B | apply sf_J | apply sf_A (by decide) | apply sf_I (by decide)))
theorem sX0_addDust {σ : St} {a : Int32} (h : Safe σ) : Safe (f0_addDust σ a).2 := sX0_addDust_L _ _ _ _ h
