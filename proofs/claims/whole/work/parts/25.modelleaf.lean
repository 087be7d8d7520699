def f10_in (a1 : Int32) (a2 : Int32) (a3 : Int32) : Int32 :=
  (if a1 < a2 then (0 : Int32) else (if a3 < a1 then (0 : Int32) else (1 : Int32)))
set_option maxHeartbeats 4000000 in
set_option maxRecDepth 100000 in
theorem bf10_in {X : CX} {Λ : LY} (C : OK X Λ cX10_in 3 RX10 0 0) {σ : St} {res : Int32} (E : EN X Λ (some .boolean) (some (.int res)) σ) (a1 : Int32) (a2 : Int32) (a3 : Int32)  (hres : (f10_in a1 a2 a3) = res) : VV X Λ 3 0 [(0, .int (a1)), (1, .int (a2)), (2, .int (a3))] [] σ := by
  unfold f10_in at hres
  refine v_iload_n (pc2 := 1) C 0 dX10_in_0 rfl rfl ?_
  refine v_iload_n (pc2 := 2) C 1 dX10_in_1 rfl rfl ?_
  refine v_icmplt (pc2 := 14) (pc3 := 5) C dX10_in_2 rfl rfl (fun h2 => ?_) (fun h2 => ?_)
  · have hres := (if_pos h2).symm.trans hres
    refine v_iconst (pc2 := 15) C dX10_in_14 ki_0 rfl ?_
    exact r_zP C E (Or.inl rfl) hres dX10_in_15
  · have hres := (if_neg h2).symm.trans hres
    refine v_iload_n (pc2 := 6) C 0 dX10_in_5 rfl rfl ?_
    refine v_iload_n (pc2 := 7) C 2 dX10_in_6 rfl rfl ?_
    refine v_icmpgt (pc2 := 14) (pc3 := 10) C dX10_in_7 rfl rfl (fun h7 => ?_) (fun h7 => ?_)
    · have hres := (if_pos h7).symm.trans hres
      refine v_iconst (pc2 := 15) C dX10_in_14 ki_0 rfl ?_
      exact r_zP C E (Or.inl rfl) hres dX10_in_15
    · have hres := (if_neg h7).symm.trans hres
      refine v_iconst (pc2 := 11) C dX10_in_10 ki_1 rfl ?_
      refine v_goto (pc2 := 15) C dX10_in_11 rfl ?_
      exact r_zP C E (Or.inr rfl) hres dX10_in_15
theorem mX10_in (l : Launch) (Λ : LY) (σ : St) (a1 : Int32) (a2 : Int32) (a3 : Int32)  : CT l Λ yX10_in cX10_in 3 (some .boolean) 0 0 [.int (a1), .int (a2), .int (a3)] σ (some (.int (f10_in a1 a2 a3))) σ := by
  refine CT_of (by decide +kernel) (Nat.le_of_ble_eq_true rfl) ?_
  intro X hX C E
  obtain ⟨res, hres⟩ : ∃ r, (f10_in a1 a2 a3) = r := ⟨_, rfl⟩
  rw [hres] at E
  exact bf10_in C E _ _ _   hres
theorem zX10_in (a1 : Int32) (a2 : Int32) (a3 : Int32) : (f10_in a1 a2 a3) = 0 ∨ (f10_in a1 a2 a3) = 1 := by
  unfold f10_in; repeat' split
  all_goals first | exact Or.inl rfl | exact Or.inr rfl
def f10_isRow (σ : St) (a1 : Int32) : Int32 :=
  (f10_in a1 (0 : Int32) ((gI σ 20) - (1 : Int32)))
set_option maxHeartbeats 4000000 in
set_option maxRecDepth 100000 in
theorem bf10_isRow {X : CX} {Λ : LY} (C : OK X Λ cX10_isRow 2 RX10 1 22) {σ : St} {res : Int32} (E : EN X Λ (some .boolean) (some (.int res)) σ) (a1 : Int32)  (hres : (f10_isRow σ a1) = res) : VV X Λ 2 0 [(0, .ref (adr Λ 37)), (1, .int (a1))] [] σ := by
  unfold f10_isRow at hres
  refine v_iload_n (pc2 := 1) C 1 dX10_isRow_0 rfl rfl ?_
  refine v_iconst (pc2 := 2) C dX10_isRow_1 ki_0 rfl ?_
  refine v_aload_n (pc2 := 3) C 0 dX10_isRow_2 rfl rfl ?_
  refine vg_X10_rows (pc2 := 6) C lf_X10_72 dX10_isRow_3 rfl ?_
  refine v_iconst (pc2 := 7) C dX10_isRow_6 ki_1 rfl ?_
  refine v_isub (pc2 := 8) C dX10_isRow_7 rfl ?_
  refine v_cSi (pc2 := 11) C kc_X10_75 (mX10_in (xl X) Λ _ _ _ _) (by decide) rfl rfl (Nat.le_of_ble_eq_true rfl) dX10_isRow_8 rfl ?_
  exact r_zP C E (zX10_in a1 (0 : Int32) ((gI σ 20) - (1 : Int32))) hres dX10_isRow_11
theorem mX10_isRow (l : Launch) (Λ : LY) (σ : St) (a1 : Int32)  : CT l Λ yX10_isRow cX10_isRow 2 (some .boolean) 1 22 [.ref (adr Λ 37), .int (a1)] σ (some (.int (f10_isRow σ a1))) σ := by
  refine CT_of (by decide +kernel) (Nat.le_of_ble_eq_true rfl) ?_
  intro X hX C E
  obtain ⟨res, hres⟩ : ∃ r, (f10_isRow σ a1) = r := ⟨_, rfl⟩
  rw [hres] at E
  exact bf10_isRow C E _   hres
theorem zX10_isRow (σ : St) (a1 : Int32) : (f10_isRow σ a1) = 0 ∨ (f10_isRow σ a1) = 1 := by
  unfold f10_isRow; repeat' split
  all_goals first | exact Or.inl rfl | exact Or.inr rfl | exact (zX10_in a1 (0 : Int32) ((gI σ 20) - (1 : Int32)))
def f10_isHour (a1 : Int32) : Int32 :=
  (f10_in a1 (0 : Int32) (23 : Int32))
set_option maxHeartbeats 4000000 in
set_option maxRecDepth 100000 in
theorem bf10_isHour {X : CX} {Λ : LY} (C : OK X Λ cX10_isHour 1 RX10 1 22) {σ : St} {res : Int32} (E : EN X Λ (some .boolean) (some (.int res)) σ) (a1 : Int32)  (hres : (f10_isHour a1) = res) : VV X Λ 1 0 [(0, .int (a1))] [] σ := by
  unfold f10_isHour at hres
  refine v_iload_n (pc2 := 1) C 0 dX10_isHour_0 rfl rfl ?_
  refine v_iconst (pc2 := 2) C dX10_isHour_1 ki_0 rfl ?_
  refine v_bipush (pc2 := 4) C dX10_isHour_2 kb_23 rfl ?_
  refine v_cSi (pc2 := 7) C kc_X10_75 (mX10_in (xl X) Λ _ _ _ _) (by decide) rfl rfl (Nat.le_of_ble_eq_true rfl) dX10_isHour_4 rfl ?_
  exact r_zP C E (zX10_in a1 (0 : Int32) (23 : Int32)) hres dX10_isHour_7
theorem mX10_isHour (l : Launch) (Λ : LY) (σ : St) (a1 : Int32)  : CT l Λ yX10_isHour cX10_isHour 1 (some .boolean) 1 22 [.int (a1)] σ (some (.int (f10_isHour a1))) σ := by
  refine CT_of (by decide +kernel) (Nat.le_of_ble_eq_true rfl) ?_
  intro X hX C E
  obtain ⟨res, hres⟩ : ∃ r, (f10_isHour a1) = r := ⟨_, rfl⟩
  rw [hres] at E
  exact bf10_isHour C E _   hres
theorem zX10_isHour (a1 : Int32) : (f10_isHour a1) = 0 ∨ (f10_isHour a1) = 1 := by
  unfold f10_isHour; repeat' split
  all_goals first | exact Or.inl rfl | exact Or.inr rfl | exact (zX10_in a1 (0 : Int32) (23 : Int32))
def f10_isStep (a1 : Int32) : Int32 :=
  (f10_in a1 (-12 : Int32) (12 : Int32))
set_option maxHeartbeats 4000000 in
set_option maxRecDepth 100000 in
theorem bf10_isStep {X : CX} {Λ : LY} (C : OK X Λ cX10_isStep 1 RX10 1 22) {σ : St} {res : Int32} (E : EN X Λ (some .boolean) (some (.int res)) σ) (a1 : Int32)  (hres : (f10_isStep a1) = res) : VV X Λ 1 0 [(0, .int (a1))] [] σ := by
  unfold f10_isStep at hres
  refine v_iload_n (pc2 := 1) C 0 dX10_isStep_0 rfl rfl ?_
  refine v_bipush (pc2 := 3) C dX10_isStep_1 kb_m12 rfl ?_
  refine v_bipush (pc2 := 5) C dX10_isStep_3 kb_12 rfl ?_
  refine v_cSi (pc2 := 8) C kc_X10_75 (mX10_in (xl X) Λ _ _ _ _) (by decide) rfl rfl (Nat.le_of_ble_eq_true rfl) dX10_isStep_5 rfl ?_
  exact r_zP C E (zX10_in a1 (-12 : Int32) (12 : Int32)) hres dX10_isStep_8
theorem mX10_isStep (l : Launch) (Λ : LY) (σ : St) (a1 : Int32)  : CT l Λ yX10_isStep cX10_isStep 1 (some .boolean) 1 22 [.int (a1)] σ (some (.int (f10_isStep a1))) σ := by
  refine CT_of (by decide +kernel) (Nat.le_of_ble_eq_true rfl) ?_
  intro X hX C E
  obtain ⟨res, hres⟩ : ∃ r, (f10_isStep a1) = r := ⟨_, rfl⟩
  rw [hres] at E
  exact bf10_isStep C E _   hres
theorem zX10_isStep (a1 : Int32) : (f10_isStep a1) = 0 ∨ (f10_isStep a1) = 1 := by
  unfold f10_isStep; repeat' split
  all_goals first | exact Or.inl rfl | exact Or.inr rfl | exact (zX10_in a1 (-12 : Int32) (12 : Int32))
def f10_isString (a1 : Int32) : Int32 :=
  (f10_in a1 (0 : Int32) (3 : Int32))
set_option maxHeartbeats 4000000 in
set_option maxRecDepth 100000 in
theorem bf10_isString {X : CX} {Λ : LY} (C : OK X Λ cX10_isString 1 RX10 1 22) {σ : St} {res : Int32} (E : EN X Λ (some .boolean) (some (.int res)) σ) (a1 : Int32)  (hres : (f10_isString a1) = res) : VV X Λ 1 0 [(0, .int (a1))] [] σ := by
  unfold f10_isString at hres
  refine v_iload_n (pc2 := 1) C 0 dX10_isString_0 rfl rfl ?_
  refine v_iconst (pc2 := 2) C dX10_isString_1 ki_0 rfl ?_
  refine v_iconst (pc2 := 3) C dX10_isString_2 ki_3 rfl ?_
  refine v_cSi (pc2 := 6) C kc_X10_75 (mX10_in (xl X) Λ _ _ _ _) (by decide) rfl rfl (Nat.le_of_ble_eq_true rfl) dX10_isString_3 rfl ?_
  exact r_zP C E (zX10_in a1 (0 : Int32) (3 : Int32)) hres dX10_isString_6
theorem mX10_isString (l : Launch) (Λ : LY) (σ : St) (a1 : Int32)  : CT l Λ yX10_isString cX10_isString 1 (some .boolean) 1 22 [.int (a1)] σ (some (.int (f10_isString a1))) σ := by
  refine CT_of (by decide +kernel) (Nat.le_of_ble_eq_true rfl) ?_
  intro X hX C E
  obtain ⟨res, hres⟩ : ∃ r, (f10_isString a1) = r := ⟨_, rfl⟩
  rw [hres] at E
  exact bf10_isString C E _   hres
theorem zX10_isString (a1 : Int32) : (f10_isString a1) = 0 ∨ (f10_isString a1) = 1 := by
  unfold f10_isString; repeat' split
  all_goals first | exact Or.inl rfl | exact Or.inr rfl | exact (zX10_in a1 (0 : Int32) (3 : Int32))
def f10_isSun (a1 : Int32) (a2 : Int32) (a3 : Int32) : Int32 :=
  (if (f10_isHour a1) = (0 : Int32) then (0 : Int32) else (if (f10_in a2 (-1000 : Int32) (1000 : Int32)) = (0 : Int32) then (0 : Int32) else (if (f10_in a3 (0 : Int32) (1000 : Int32)) = (0 : Int32) then (0 : Int32) else (1 : Int32))))
set_option maxHeartbeats 4000000 in
set_option maxRecDepth 100000 in
theorem bf10_isSun {X : CX} {Λ : LY} (C : OK X Λ cX10_isSun 3 RX10 2 42) {σ : St} {res : Int32} (E : EN X Λ (some .boolean) (some (.int res)) σ) (a1 : Int32) (a2 : Int32) (a3 : Int32)  (hres : (f10_isSun a1 a2 a3) = res) : VV X Λ 3 0 [(0, .int (a1)), (1, .int (a2)), (2, .int (a3))] [] σ := by
  unfold f10_isSun at hres
  refine v_iload_n (pc2 := 1) C 0 dX10_isSun_0 rfl rfl ?_
  refine v_cSi (pc2 := 4) C kc_X10_131 (mX10_isHour (xl X) Λ _ _) (by decide) rfl rfl (Nat.le_of_ble_eq_true rfl) dX10_isSun_1 rfl ?_
  refine v_ifeq (pc2 := 35) (pc3 := 7) C dX10_isSun_4 rfl rfl (fun h4 => ?_) (fun h4 => ?_)
  · have hres := (if_pos h4).symm.trans hres
    refine v_iconst (pc2 := 36) C dX10_isSun_35 ki_0 rfl ?_
    exact r_zP C E (Or.inl rfl) hres dX10_isSun_36
  · have hres := (if_neg h4).symm.trans hres
    refine v_iload_n (pc2 := 8) C 1 dX10_isSun_7 rfl rfl ?_
    refine v_sipush (pc2 := 11) C dX10_isSun_8 ks_m1000 rfl ?_
    refine v_sipush (pc2 := 14) C dX10_isSun_11 ks_1000 rfl ?_
    refine v_cSi (pc2 := 17) C kc_X10_75 (mX10_in (xl X) Λ _ _ _ _) (by decide) rfl rfl (Nat.le_of_ble_eq_true rfl) dX10_isSun_14 rfl ?_
    refine v_ifeq (pc2 := 35) (pc3 := 20) C dX10_isSun_17 rfl rfl (fun h17 => ?_) (fun h17 => ?_)
    · have hres := (if_pos h17).symm.trans hres
      refine v_iconst (pc2 := 36) C dX10_isSun_35 ki_0 rfl ?_
      exact r_zP C E (Or.inl rfl) hres dX10_isSun_36
    · have hres := (if_neg h17).symm.trans hres
      refine v_iload_n (pc2 := 21) C 2 dX10_isSun_20 rfl rfl ?_
      refine v_iconst (pc2 := 22) C dX10_isSun_21 ki_0 rfl ?_
      refine v_sipush (pc2 := 25) C dX10_isSun_22 ks_1000 rfl ?_
      refine v_cSi (pc2 := 28) C kc_X10_75 (mX10_in (xl X) Λ _ _ _ _) (by decide) rfl rfl (Nat.le_of_ble_eq_true rfl) dX10_isSun_25 rfl ?_
      refine v_ifeq (pc2 := 35) (pc3 := 31) C dX10_isSun_28 rfl rfl (fun h28 => ?_) (fun h28 => ?_)
      · have hres := (if_pos h28).symm.trans hres
        refine v_iconst (pc2 := 36) C dX10_isSun_35 ki_0 rfl ?_
        exact r_zP C E (Or.inl rfl) hres dX10_isSun_36
      · have hres := (if_neg h28).symm.trans hres
        refine v_iconst (pc2 := 32) C dX10_isSun_31 ki_1 rfl ?_
        refine v_goto (pc2 := 36) C dX10_isSun_32 rfl ?_
        exact r_zP C E (Or.inr rfl) hres dX10_isSun_36
theorem mX10_isSun (l : Launch) (Λ : LY) (σ : St) (a1 : Int32) (a2 : Int32) (a3 : Int32)  : CT l Λ yX10_isSun cX10_isSun 3 (some .boolean) 2 42 [.int (a1), .int (a2), .int (a3)] σ (some (.int (f10_isSun a1 a2 a3))) σ := by
  refine CT_of (by decide +kernel) (Nat.le_of_ble_eq_true rfl) ?_
  intro X hX C E
  obtain ⟨res, hres⟩ : ∃ r, (f10_isSun a1 a2 a3) = r := ⟨_, rfl⟩
  rw [hres] at E
  exact bf10_isSun C E _ _ _   hres
theorem zX10_isSun (a1 : Int32) (a2 : Int32) (a3 : Int32) : (f10_isSun a1 a2 a3) = 0 ∨ (f10_isSun a1 a2 a3) = 1 := by
  unfold f10_isSun; repeat' split
  all_goals first | exact Or.inl rfl | exact Or.inr rfl
def f10_isPlan (a1 : Int32) (a2 : Int32) : Int32 :=
  (if (f10_in a1 (1 : Int32) (100 : Int32)) = (0 : Int32) then (0 : Int32) else (if (f10_in a2 (0 : Int32) (1000000 : Int32)) = (0 : Int32) then (0 : Int32) else (1 : Int32)))
set_option maxHeartbeats 4000000 in
set_option maxRecDepth 100000 in
theorem bf10_isPlan {X : CX} {Λ : LY} (C : OK X Λ cX10_isPlan 2 RX10 1 22) {σ : St} {res : Int32} (E : EN X Λ (some .boolean) (some (.int res)) σ) (a1 : Int32) (a2 : Int32)  (hres : (f10_isPlan a1 a2) = res) : VV X Λ 2 0 [(0, .int (a1)), (1, .int (a2))] [] σ := by
  unfold f10_isPlan at hres
  refine v_iload_n (pc2 := 1) C 0 dX10_isPlan_0 rfl rfl ?_
  refine v_iconst (pc2 := 2) C dX10_isPlan_1 ki_1 rfl ?_
  refine v_bipush (pc2 := 4) C dX10_isPlan_2 kb_100 rfl ?_
  refine v_cSi (pc2 := 7) C kc_X10_75 (mX10_in (xl X) Λ _ _ _ _) (by decide) rfl rfl (Nat.le_of_ble_eq_true rfl) dX10_isPlan_4 rfl ?_
  refine v_ifeq (pc2 := 24) (pc3 := 10) C dX10_isPlan_7 rfl rfl (fun h7 => ?_) (fun h7 => ?_)
  · have hres := (if_pos h7).symm.trans hres
    refine v_iconst (pc2 := 25) C dX10_isPlan_24 ki_0 rfl ?_
    exact r_zP C E (Or.inl rfl) hres dX10_isPlan_25
  · have hres := (if_neg h7).symm.trans hres
    refine v_iload_n (pc2 := 11) C 1 dX10_isPlan_10 rfl rfl ?_
    refine v_iconst (pc2 := 12) C dX10_isPlan_11 ki_0 rfl ?_
    refine v_ldc (pc2 := 14) C lc_X10_70 dX10_isPlan_12 rfl ?_
    refine v_cSi (pc2 := 17) C kc_X10_75 (mX10_in (xl X) Λ _ _ _ _) (by decide) rfl rfl (Nat.le_of_ble_eq_true rfl) dX10_isPlan_14 rfl ?_
    refine v_ifeq (pc2 := 24) (pc3 := 20) C dX10_isPlan_17 rfl rfl (fun h17 => ?_) (fun h17 => ?_)
    · have hres := (if_pos h17).symm.trans hres
      refine v_iconst (pc2 := 25) C dX10_isPlan_24 ki_0 rfl ?_
      exact r_zP C E (Or.inl rfl) hres dX10_isPlan_25
    · have hres := (if_neg h17).symm.trans hres
      refine v_iconst (pc2 := 21) C dX10_isPlan_20 ki_1 rfl ?_
      refine v_goto (pc2 := 25) C dX10_isPlan_21 rfl ?_
      exact r_zP C E (Or.inr rfl) hres dX10_isPlan_25
theorem mX10_isPlan (l : Launch) (Λ : LY) (σ : St) (a1 : Int32) (a2 : Int32)  : CT l Λ yX10_isPlan cX10_isPlan 2 (some .boolean) 1 22 [.int (a1), .int (a2)] σ (some (.int (f10_isPlan a1 a2))) σ := by
  refine CT_of (by decide +kernel) (Nat.le_of_ble_eq_true rfl) ?_
  intro X hX C E
  obtain ⟨res, hres⟩ : ∃ r, (f10_isPlan a1 a2) = r := ⟨_, rfl⟩
  rw [hres] at E
  exact bf10_isPlan C E _ _   hres
theorem zX10_isPlan (a1 : Int32) (a2 : Int32) : (f10_isPlan a1 a2) = 0 ∨ (f10_isPlan a1 a2) = 1 := by
  unfold f10_isPlan; repeat' split
  all_goals first | exact Or.inl rfl | exact Or.inr rfl
def f10_finding (σ : St) (a1 : Int32) : Int32 × St :=
  (a1, (uA σ 33 (Int32.toNatClampNeg ((-1000000000 : Int32) - a1)) ((gA σ 33 (Int32.toNatClampNeg ((-1000000000 : Int32) - a1))) + (1 : Int32))))
set_option maxHeartbeats 4000000 in
set_option maxRecDepth 100000 in
theorem bf10_finding {X : CX} {Λ : LY} (C : OK X Λ cX10_finding 2 RX10 0 0) {res : Int32 × St} (E : EN X Λ (some .int) (some (.int res.1)) res.2) (σ : St) (a1 : Int32) (h1 : vp_in ((-1000000000 : Int32) - a1) 6) (hres : (f10_finding σ a1) = res) : VV X Λ 2 0 [(0, .ref (adr Λ 37)), (1, .int (a1))] [] σ := by
  unfold f10_finding at hres
  refine v_aload_n (pc2 := 1) C 0 dX10_finding_0 rfl rfl ?_
  refine vg_X10_findings (pc2 := 4) C lf_X10_61 dX10_finding_1 rfl ?_
  refine v_ldc (pc2 := 6) C lc_X10_71 dX10_finding_4 rfl ?_
  refine v_iload_n (pc2 := 7) C 1 dX10_finding_6 rfl rfl ?_
  refine v_isub (pc2 := 8) C dX10_finding_7 rfl ?_
  refine v_dup2 (pc2 := 9) C dX10_finding_8 rfl rfl rfl ?_
  refine al53 (pc2 := 10) C h1 dX10_finding_9 rfl ?_
  refine v_iconst (pc2 := 11) C dX10_finding_10 ki_1 rfl ?_
  refine v_iadd (pc2 := 12) C dX10_finding_11 rfl ?_
  refine as53 (pc2 := 13) C h1 dX10_finding_12 rfl ?_
  refine v_iload_n (pc2 := 14) C 1 dX10_finding_13 rfl rfl ?_
  exact r_iS C E hres dX10_finding_14
theorem mX10_finding (l : Launch) (Λ : LY) (σ : St) (a1 : Int32) (h1 : vp_in ((-1000000000 : Int32) - a1) 6) : CT l Λ yX10_finding cX10_finding 2 (some .int) 0 0 [.ref (adr Λ 37), .int (a1)] σ (some (.int (f10_finding σ a1).1)) (f10_finding σ a1).2 := by
  refine CT_of (by decide +kernel) (Nat.le_of_ble_eq_true rfl) ?_
  intro X hX C E
  obtain ⟨res, hres⟩ : ∃ r, (f10_finding σ a1) = r := ⟨_, rfl⟩
  rw [hres] at E
  exact bf10_finding C E _ _  h1 hres
def f10_isNight (σ : St) (a1 : Int32) : Int32 :=
  (if (gA σ 28 (Int32.toNatClampNeg a1)) = (0 : Int32) then (1 : Int32) else (0 : Int32))
set_option maxHeartbeats 4000000 in
set_option maxRecDepth 100000 in
theorem bf10_isNight {X : CX} {Λ : LY} (C : OK X Λ cX10_isNight 2 RX10 0 0) {σ : St} {res : Int32} (E : EN X Λ (some .boolean) (some (.int res)) σ) (a1 : Int32) (h1 : vp_in a1 24) (hres : (f10_isNight σ a1) = res) : VV X Λ 2 0 [(0, .ref (adr Λ 37)), (1, .int (a1))] [] σ := by
  unfold f10_isNight at hres
  refine v_aload_n (pc2 := 1) C 0 dX10_isNight_0 rfl rfl ?_
  refine vg_X10_sunY (pc2 := 4) C lf_X10_34 dX10_isNight_1 rfl ?_
  refine v_iload_n (pc2 := 5) C 1 dX10_isNight_4 rfl rfl ?_
  refine al46 (pc2 := 6) C h1 dX10_isNight_5 rfl ?_
  refine v_ifne (pc2 := 13) (pc3 := 9) C dX10_isNight_6 rfl rfl (fun h6 => ?_) (fun h6 => ?_)
  · have hres := (if_neg h6).symm.trans hres
    refine v_iconst (pc2 := 14) C dX10_isNight_13 ki_0 rfl ?_
    exact r_zP C E (Or.inl rfl) hres dX10_isNight_14
  · have hres := (if_pos h6).symm.trans hres
    refine v_iconst (pc2 := 10) C dX10_isNight_9 ki_1 rfl ?_
    refine v_goto (pc2 := 14) C dX10_isNight_10 rfl ?_
    exact r_zP C E (Or.inr rfl) hres dX10_isNight_14
theorem mX10_isNight (l : Launch) (Λ : LY) (σ : St) (a1 : Int32) (h1 : vp_in a1 24) : CT l Λ yX10_isNight cX10_isNight 2 (some .boolean) 0 0 [.ref (adr Λ 37), .int (a1)] σ (some (.int (f10_isNight σ a1))) σ := by
  refine CT_of (by decide +kernel) (Nat.le_of_ble_eq_true rfl) ?_
  intro X hX C E
  obtain ⟨res, hres⟩ : ∃ r, (f10_isNight σ a1) = r := ⟨_, rfl⟩
  rw [hres] at E
  exact bf10_isNight C E _  h1 hres
theorem zX10_isNight (σ : St) (a1 : Int32) : (f10_isNight σ a1) = 0 ∨ (f10_isNight σ a1) = 1 := by
  unfold f10_isNight; repeat' split
  all_goals first | exact Or.inl rfl | exact Or.inr rfl
def f10_cosine (a1 : Int32) : Int64 :=
  (if (0 : Int32) ≤ a1 then (if a1 = (0 : Int32) then (10000 : Int64) else (if a1 = (1 : Int32) then (9962 : Int64) else (if a1 = (2 : Int32) then (9848 : Int64) else (if a1 = (3 : Int32) then (9659 : Int64) else (if a1 = (4 : Int32) then (9397 : Int64) else (if a1 = (5 : Int32) then (9063 : Int64) else (if a1 = (6 : Int32) then (8660 : Int64) else (if a1 = (7 : Int32) then (8192 : Int64) else (if a1 = (8 : Int32) then (7660 : Int64) else (if a1 = (9 : Int32) then (7071 : Int64) else (if a1 = (10 : Int32) then (6428 : Int64) else (if a1 = (11 : Int32) then (5736 : Int64) else (5000 : Int64))))))))))))) else (if (-a1) = (0 : Int32) then (10000 : Int64) else (if (-a1) = (1 : Int32) then (9962 : Int64) else (if (-a1) = (2 : Int32) then (9848 : Int64) else (if (-a1) = (3 : Int32) then (9659 : Int64) else (if (-a1) = (4 : Int32) then (9397 : Int64) else (if (-a1) = (5 : Int32) then (9063 : Int64) else (if (-a1) = (6 : Int32) then (8660 : Int64) else (if (-a1) = (7 : Int32) then (8192 : Int64) else (if (-a1) = (8 : Int32) then (7660 : Int64) else (if (-a1) = (9 : Int32) then (7071 : Int64) else (if (-a1) = (10 : Int32) then (6428 : Int64) else (if (-a1) = (11 : Int32) then (5736 : Int64) else (5000 : Int64))))))))))))))
set_option maxHeartbeats 4000000 in
set_option maxRecDepth 100000 in
theorem bf10_cosine {X : CX} {Λ : LY} (C : OK X Λ cX10_cosine 1 RX10 0 0) {σ : St} {res : Int64} (E : EN X Λ (some .long) (some (.long res)) σ) (a1 : Int32)  (hres : (f10_cosine a1) = res) : VV X Λ 1 0 [(0, .int (a1))] [] σ := by
  unfold f10_cosine at hres
  refine v_iload_n (pc2 := 1) C 0 dX10_cosine_0 rfl rfl ?_
  refine v_ifge (pc2 := 9) (pc3 := 4) C dX10_cosine_1 rfl rfl (fun h1 => ?_) (fun h1 => ?_)
  · have hres := (if_pos h1).symm.trans hres
    refine v_iload_n (pc2 := 10) C 0 dX10_cosine_9 rfl rfl ?_
    by_cases s10_0 : a1 = (0 : Int32)
    · have hres := (if_pos s10_0).symm.trans hres
      refine v_tabI (pc2 := 72) (j := 0) C dX10_cosine_10 s10_0 (by decide +kernel) (by decide) rfl rfl ?_
      refine v_ldc2 (pc2 := 75) C lc_X10_79 dX10_cosine_72 rfl ?_
      exact r_lP C E hres dX10_cosine_75
    have hres := (if_neg s10_0).symm.trans hres
    by_cases s10_1 : a1 = (1 : Int32)
    · have hres := (if_pos s10_1).symm.trans hres
      refine v_tabI (pc2 := 76) (j := 1) C dX10_cosine_10 s10_1 (by decide +kernel) (by decide) rfl rfl ?_
      refine v_ldc2 (pc2 := 79) C lc_X10_81 dX10_cosine_76 rfl ?_
      exact r_lP C E hres dX10_cosine_79
    have hres := (if_neg s10_1).symm.trans hres
    by_cases s10_2 : a1 = (2 : Int32)
    · have hres := (if_pos s10_2).symm.trans hres
      refine v_tabI (pc2 := 80) (j := 2) C dX10_cosine_10 s10_2 (by decide +kernel) (by decide) rfl rfl ?_
      refine v_ldc2 (pc2 := 83) C lc_X10_83 dX10_cosine_80 rfl ?_
      exact r_lP C E hres dX10_cosine_83
    have hres := (if_neg s10_2).symm.trans hres
    by_cases s10_3 : a1 = (3 : Int32)
    · have hres := (if_pos s10_3).symm.trans hres
      refine v_tabI (pc2 := 84) (j := 3) C dX10_cosine_10 s10_3 (by decide +kernel) (by decide) rfl rfl ?_
      refine v_ldc2 (pc2 := 87) C lc_X10_85 dX10_cosine_84 rfl ?_
      exact r_lP C E hres dX10_cosine_87
    have hres := (if_neg s10_3).symm.trans hres
    by_cases s10_4 : a1 = (4 : Int32)
    · have hres := (if_pos s10_4).symm.trans hres
      refine v_tabI (pc2 := 88) (j := 4) C dX10_cosine_10 s10_4 (by decide +kernel) (by decide) rfl rfl ?_
      refine v_ldc2 (pc2 := 91) C lc_X10_87 dX10_cosine_88 rfl ?_
      exact r_lP C E hres dX10_cosine_91
    have hres := (if_neg s10_4).symm.trans hres
    by_cases s10_5 : a1 = (5 : Int32)
    · have hres := (if_pos s10_5).symm.trans hres
      refine v_tabI (pc2 := 92) (j := 5) C dX10_cosine_10 s10_5 (by decide +kernel) (by decide) rfl rfl ?_
      refine v_ldc2 (pc2 := 95) C lc_X10_89 dX10_cosine_92 rfl ?_
      exact r_lP C E hres dX10_cosine_95
    have hres := (if_neg s10_5).symm.trans hres
    by_cases s10_6 : a1 = (6 : Int32)
    · have hres := (if_pos s10_6).symm.trans hres
      refine v_tabI (pc2 := 96) (j := 6) C dX10_cosine_10 s10_6 (by decide +kernel) (by decide) rfl rfl ?_
      refine v_ldc2 (pc2 := 99) C lc_X10_91 dX10_cosine_96 rfl ?_
      exact r_lP C E hres dX10_cosine_99
    have hres := (if_neg s10_6).symm.trans hres
    by_cases s10_7 : a1 = (7 : Int32)
    · have hres := (if_pos s10_7).symm.trans hres
      refine v_tabI (pc2 := 100) (j := 7) C dX10_cosine_10 s10_7 (by decide +kernel) (by decide) rfl rfl ?_
      refine v_ldc2 (pc2 := 103) C lc_X10_93 dX10_cosine_100 rfl ?_
      exact r_lP C E hres dX10_cosine_103
    have hres := (if_neg s10_7).symm.trans hres
    by_cases s10_8 : a1 = (8 : Int32)
    · have hres := (if_pos s10_8).symm.trans hres
      refine v_tabI (pc2 := 104) (j := 8) C dX10_cosine_10 s10_8 (by decide +kernel) (by decide) rfl rfl ?_
      refine v_ldc2 (pc2 := 107) C lc_X10_95 dX10_cosine_104 rfl ?_
      exact r_lP C E hres dX10_cosine_107
    have hres := (if_neg s10_8).symm.trans hres
    by_cases s10_9 : a1 = (9 : Int32)
    · have hres := (if_pos s10_9).symm.trans hres
      refine v_tabI (pc2 := 108) (j := 9) C dX10_cosine_10 s10_9 (by decide +kernel) (by decide) rfl rfl ?_
      refine v_ldc2 (pc2 := 111) C lc_X10_97 dX10_cosine_108 rfl ?_
      exact r_lP C E hres dX10_cosine_111
    have hres := (if_neg s10_9).symm.trans hres
    by_cases s10_10 : a1 = (10 : Int32)
    · have hres := (if_pos s10_10).symm.trans hres
      refine v_tabI (pc2 := 112) (j := 10) C dX10_cosine_10 s10_10 (by decide +kernel) (by decide) rfl rfl ?_
      refine v_ldc2 (pc2 := 115) C lc_X10_99 dX10_cosine_112 rfl ?_
      exact r_lP C E hres dX10_cosine_115
    have hres := (if_neg s10_10).symm.trans hres
    by_cases s10_11 : a1 = (11 : Int32)
    · have hres := (if_pos s10_11).symm.trans hres
      refine v_tabI (pc2 := 116) (j := 11) C dX10_cosine_10 s10_11 (by decide +kernel) (by decide) rfl rfl ?_
      refine v_ldc2 (pc2 := 119) C lc_X10_101 dX10_cosine_116 rfl ?_
      exact r_lP C E hres dX10_cosine_119
    have hres := (if_neg s10_11).symm.trans hres
    refine v_tabO (pc2 := 120) C dX10_cosine_10 (by have e0 := t_neq s10_0 rfl (show ((0 : Int32)).toInt = 0 by decide +kernel); have e1 := t_neq s10_1 rfl (show ((1 : Int32)).toInt = 1 by decide +kernel); have e2 := t_neq s10_2 rfl (show ((2 : Int32)).toInt = 2 by decide +kernel); have e3 := t_neq s10_3 rfl (show ((3 : Int32)).toInt = 3 by decide +kernel); have e4 := t_neq s10_4 rfl (show ((4 : Int32)).toInt = 4 by decide +kernel); have e5 := t_neq s10_5 rfl (show ((5 : Int32)).toInt = 5 by decide +kernel); have e6 := t_neq s10_6 rfl (show ((6 : Int32)).toInt = 6 by decide +kernel); have e7 := t_neq s10_7 rfl (show ((7 : Int32)).toInt = 7 by decide +kernel); have e8 := t_neq s10_8 rfl (show ((8 : Int32)).toInt = 8 by decide +kernel); have e9 := t_neq s10_9 rfl (show ((9 : Int32)).toInt = 9 by decide +kernel); have e10 := t_neq s10_10 rfl (show ((10 : Int32)).toInt = 10 by decide +kernel); have e11 := t_neq s10_11 rfl (show ((11 : Int32)).toInt = 11 by decide +kernel); omega) rfl ?_
    refine v_ldc2 (pc2 := 123) C lc_X10_103 dX10_cosine_120 rfl ?_
    exact r_lP C E hres dX10_cosine_123
  · have hres := (if_neg h1).symm.trans hres
    refine v_iload_n (pc2 := 5) C 0 dX10_cosine_4 rfl rfl ?_
    refine v_ineg (pc2 := 6) C dX10_cosine_5 rfl ?_
    refine v_goto (pc2 := 10) C dX10_cosine_6 rfl ?_
    by_cases s10_0 : (-a1) = (0 : Int32)
    · have hres := (if_pos s10_0).symm.trans hres
      refine v_tabI (pc2 := 72) (j := 0) C dX10_cosine_10 s10_0 (by decide +kernel) (by decide) rfl rfl ?_
      refine v_ldc2 (pc2 := 75) C lc_X10_79 dX10_cosine_72 rfl ?_
      exact r_lP C E hres dX10_cosine_75
    have hres := (if_neg s10_0).symm.trans hres
    by_cases s10_1 : (-a1) = (1 : Int32)
    · have hres := (if_pos s10_1).symm.trans hres
      refine v_tabI (pc2 := 76) (j := 1) C dX10_cosine_10 s10_1 (by decide +kernel) (by decide) rfl rfl ?_
      refine v_ldc2 (pc2 := 79) C lc_X10_81 dX10_cosine_76 rfl ?_
      exact r_lP C E hres dX10_cosine_79
    have hres := (if_neg s10_1).symm.trans hres
    by_cases s10_2 : (-a1) = (2 : Int32)
    · have hres := (if_pos s10_2).symm.trans hres
      refine v_tabI (pc2 := 80) (j := 2) C dX10_cosine_10 s10_2 (by decide +kernel) (by decide) rfl rfl ?_
      refine v_ldc2 (pc2 := 83) C lc_X10_83 dX10_cosine_80 rfl ?_
      exact r_lP C E hres dX10_cosine_83
    have hres := (if_neg s10_2).symm.trans hres
    by_cases s10_3 : (-a1) = (3 : Int32)
    · have hres := (if_pos s10_3).symm.trans hres
      refine v_tabI (pc2 := 84) (j := 3) C dX10_cosine_10 s10_3 (by decide +kernel) (by decide) rfl rfl ?_
      refine v_ldc2 (pc2 := 87) C lc_X10_85 dX10_cosine_84 rfl ?_
      exact r_lP C E hres dX10_cosine_87
    have hres := (if_neg s10_3).symm.trans hres
    by_cases s10_4 : (-a1) = (4 : Int32)
    · have hres := (if_pos s10_4).symm.trans hres
      refine v_tabI (pc2 := 88) (j := 4) C dX10_cosine_10 s10_4 (by decide +kernel) (by decide) rfl rfl ?_
      refine v_ldc2 (pc2 := 91) C lc_X10_87 dX10_cosine_88 rfl ?_
      exact r_lP C E hres dX10_cosine_91
    have hres := (if_neg s10_4).symm.trans hres
    by_cases s10_5 : (-a1) = (5 : Int32)
    · have hres := (if_pos s10_5).symm.trans hres
      refine v_tabI (pc2 := 92) (j := 5) C dX10_cosine_10 s10_5 (by decide +kernel) (by decide) rfl rfl ?_
      refine v_ldc2 (pc2 := 95) C lc_X10_89 dX10_cosine_92 rfl ?_
      exact r_lP C E hres dX10_cosine_95
    have hres := (if_neg s10_5).symm.trans hres
    by_cases s10_6 : (-a1) = (6 : Int32)
    · have hres := (if_pos s10_6).symm.trans hres
      refine v_tabI (pc2 := 96) (j := 6) C dX10_cosine_10 s10_6 (by decide +kernel) (by decide) rfl rfl ?_
      refine v_ldc2 (pc2 := 99) C lc_X10_91 dX10_cosine_96 rfl ?_
      exact r_lP C E hres dX10_cosine_99
    have hres := (if_neg s10_6).symm.trans hres
    by_cases s10_7 : (-a1) = (7 : Int32)
    · have hres := (if_pos s10_7).symm.trans hres
      refine v_tabI (pc2 := 100) (j := 7) C dX10_cosine_10 s10_7 (by decide +kernel) (by decide) rfl rfl ?_
      refine v_ldc2 (pc2 := 103) C lc_X10_93 dX10_cosine_100 rfl ?_
      exact r_lP C E hres dX10_cosine_103
    have hres := (if_neg s10_7).symm.trans hres
    by_cases s10_8 : (-a1) = (8 : Int32)
    · have hres := (if_pos s10_8).symm.trans hres
      refine v_tabI (pc2 := 104) (j := 8) C dX10_cosine_10 s10_8 (by decide +kernel) (by decide) rfl rfl ?_
      refine v_ldc2 (pc2 := 107) C lc_X10_95 dX10_cosine_104 rfl ?_
      exact r_lP C E hres dX10_cosine_107
    have hres := (if_neg s10_8).symm.trans hres
    by_cases s10_9 : (-a1) = (9 : Int32)
    · have hres := (if_pos s10_9).symm.trans hres
      refine v_tabI (pc2 := 108) (j := 9) C dX10_cosine_10 s10_9 (by decide +kernel) (by decide) rfl rfl ?_
      refine v_ldc2 (pc2 := 111) C lc_X10_97 dX10_cosine_108 rfl ?_
      exact r_lP C E hres dX10_cosine_111
    have hres := (if_neg s10_9).symm.trans hres
    by_cases s10_10 : (-a1) = (10 : Int32)
    · have hres := (if_pos s10_10).symm.trans hres
      refine v_tabI (pc2 := 112) (j := 10) C dX10_cosine_10 s10_10 (by decide +kernel) (by decide) rfl rfl ?_
      refine v_ldc2 (pc2 := 115) C lc_X10_99 dX10_cosine_112 rfl ?_
      exact r_lP C E hres dX10_cosine_115
    have hres := (if_neg s10_10).symm.trans hres
    by_cases s10_11 : (-a1) = (11 : Int32)
    · have hres := (if_pos s10_11).symm.trans hres
      refine v_tabI (pc2 := 116) (j := 11) C dX10_cosine_10 s10_11 (by decide +kernel) (by decide) rfl rfl ?_
      refine v_ldc2 (pc2 := 119) C lc_X10_101 dX10_cosine_116 rfl ?_
      exact r_lP C E hres dX10_cosine_119
    have hres := (if_neg s10_11).symm.trans hres
    refine v_tabO (pc2 := 120) C dX10_cosine_10 (by have e0 := t_neq s10_0 rfl (show ((0 : Int32)).toInt = 0 by decide +kernel); have e1 := t_neq s10_1 rfl (show ((1 : Int32)).toInt = 1 by decide +kernel); have e2 := t_neq s10_2 rfl (show ((2 : Int32)).toInt = 2 by decide +kernel); have e3 := t_neq s10_3 rfl (show ((3 : Int32)).toInt = 3 by decide +kernel); have e4 := t_neq s10_4 rfl (show ((4 : Int32)).toInt = 4 by decide +kernel); have e5 := t_neq s10_5 rfl (show ((5 : Int32)).toInt = 5 by decide +kernel); have e6 := t_neq s10_6 rfl (show ((6 : Int32)).toInt = 6 by decide +kernel); have e7 := t_neq s10_7 rfl (show ((7 : Int32)).toInt = 7 by decide +kernel); have e8 := t_neq s10_8 rfl (show ((8 : Int32)).toInt = 8 by decide +kernel); have e9 := t_neq s10_9 rfl (show ((9 : Int32)).toInt = 9 by decide +kernel); have e10 := t_neq s10_10 rfl (show ((10 : Int32)).toInt = 10 by decide +kernel); have e11 := t_neq s10_11 rfl (show ((11 : Int32)).toInt = 11 by decide +kernel); omega) rfl ?_
    refine v_ldc2 (pc2 := 123) C lc_X10_103 dX10_cosine_120 rfl ?_
    exact r_lP C E hres dX10_cosine_123
theorem mX10_cosine (l : Launch) (Λ : LY) (σ : St) (a1 : Int32)  : CT l Λ yX10_cosine cX10_cosine 1 (some .long) 0 0 [.int (a1)] σ (some (.long (f10_cosine a1))) σ := by
  refine CT_of (by decide +kernel) (Nat.le_of_ble_eq_true rfl) ?_
  intro X hX C E
  obtain ⟨res, hres⟩ : ∃ r, (f10_cosine a1) = r := ⟨_, rfl⟩
  rw [hres] at E
  exact bf10_cosine C E _   hres
def f10_sine (a1 : Int32) : Int64 :=
  (if (0 : Int32) ≤ a1 then (if a1 = (0 : Int32) then (if (0 : Int32) ≤ a1 then (0 : Int64) else (-(0 : Int64))) else (if a1 = (1 : Int32) then (if (0 : Int32) ≤ a1 then (872 : Int64) else (-(872 : Int64))) else (if a1 = (2 : Int32) then (if (0 : Int32) ≤ a1 then (1736 : Int64) else (-(1736 : Int64))) else (if a1 = (3 : Int32) then (if (0 : Int32) ≤ a1 then (2588 : Int64) else (-(2588 : Int64))) else (if a1 = (4 : Int32) then (if (0 : Int32) ≤ a1 then (3420 : Int64) else (-(3420 : Int64))) else (if a1 = (5 : Int32) then (if (0 : Int32) ≤ a1 then (4226 : Int64) else (-(4226 : Int64))) else (if a1 = (6 : Int32) then (if (0 : Int32) ≤ a1 then (5000 : Int64) else (-(5000 : Int64))) else (if a1 = (7 : Int32) then (if (0 : Int32) ≤ a1 then (5736 : Int64) else (-(5736 : Int64))) else (if a1 = (8 : Int32) then (if (0 : Int32) ≤ a1 then (6428 : Int64) else (-(6428 : Int64))) else (if a1 = (9 : Int32) then (if (0 : Int32) ≤ a1 then (7071 : Int64) else (-(7071 : Int64))) else (if a1 = (10 : Int32) then (if (0 : Int32) ≤ a1 then (7660 : Int64) else (-(7660 : Int64))) else (if a1 = (11 : Int32) then (if (0 : Int32) ≤ a1 then (8192 : Int64) else (-(8192 : Int64))) else (if (0 : Int32) ≤ a1 then (8660 : Int64) else (-(8660 : Int64))))))))))))))) else (if (-a1) = (0 : Int32) then (if (0 : Int32) ≤ a1 then (0 : Int64) else (-(0 : Int64))) else (if (-a1) = (1 : Int32) then (if (0 : Int32) ≤ a1 then (872 : Int64) else (-(872 : Int64))) else (if (-a1) = (2 : Int32) then (if (0 : Int32) ≤ a1 then (1736 : Int64) else (-(1736 : Int64))) else (if (-a1) = (3 : Int32) then (if (0 : Int32) ≤ a1 then (2588 : Int64) else (-(2588 : Int64))) else (if (-a1) = (4 : Int32) then (if (0 : Int32) ≤ a1 then (3420 : Int64) else (-(3420 : Int64))) else (if (-a1) = (5 : Int32) then (if (0 : Int32) ≤ a1 then (4226 : Int64) else (-(4226 : Int64))) else (if (-a1) = (6 : Int32) then (if (0 : Int32) ≤ a1 then (5000 : Int64) else (-(5000 : Int64))) else (if (-a1) = (7 : Int32) then (if (0 : Int32) ≤ a1 then (5736 : Int64) else (-(5736 : Int64))) else (if (-a1) = (8 : Int32) then (if (0 : Int32) ≤ a1 then (6428 : Int64) else (-(6428 : Int64))) else (if (-a1) = (9 : Int32) then (if (0 : Int32) ≤ a1 then (7071 : Int64) else (-(7071 : Int64))) else (if (-a1) = (10 : Int32) then (if (0 : Int32) ≤ a1 then (7660 : Int64) else (-(7660 : Int64))) else (if (-a1) = (11 : Int32) then (if (0 : Int32) ≤ a1 then (8192 : Int64) else (-(8192 : Int64))) else (if (0 : Int32) ≤ a1 then (8660 : Int64) else (-(8660 : Int64))))))))))))))))
set_option maxHeartbeats 4000000 in
set_option maxRecDepth 100000 in
theorem bf10_sine {X : CX} {Λ : LY} (C : OK X Λ cX10_sine 3 RX10 0 0) {σ : St} {res : Int64} (E : EN X Λ (some .long) (some (.long res)) σ) (a1 : Int32)  (hres : (f10_sine a1) = res) : VV X Λ 3 0 [(0, .int (a1))] [] σ := by
  unfold f10_sine at hres
  refine v_iload_n (pc2 := 1) C 0 dX10_sine_0 rfl rfl ?_
  refine v_ifge (pc2 := 9) (pc3 := 4) C dX10_sine_1 rfl rfl (fun h1 => ?_) (fun h1 => ?_)
  · have hres := (if_pos h1).symm.trans hres
    refine v_iload_n (pc2 := 10) C 0 dX10_sine_9 rfl rfl ?_
    by_cases s10_0 : a1 = (0 : Int32)
    · have hres := (if_pos s10_0).symm.trans hres
      refine v_tabI (pc2 := 72) (j := 0) C dX10_sine_10 s10_0 (by decide +kernel) (by decide) rfl rfl ?_
      refine v_lconst (pc2 := 73) C dX10_sine_72 kl_0 rfl ?_
      refine v_lstore_n (pc2 := 74) (lv2 := [(1, _), (0, _)]) C dX10_sine_73 (by decide) rfl rfl ?_
      refine v_goto (pc2 := 158) C dX10_sine_74 rfl ?_
      refine v_iload_n (pc2 := 159) C 1 dX10_sine_158 rfl rfl ?_
      refine v_ifge (pc2 := 167) (pc3 := 162) C dX10_sine_159 rfl rfl (fun h159 => ?_) (fun h159 => ?_)
      · have hres := (if_pos h159).symm.trans hres
        refine v_lload_n (pc2 := 168) C 0 dX10_sine_167 rfl rfl ?_
        exact r_lP C E hres dX10_sine_168
      · have hres := (if_neg h159).symm.trans hres
        refine v_lload_n (pc2 := 163) C 0 dX10_sine_162 rfl rfl ?_
        refine v_lneg (pc2 := 164) C dX10_sine_163 rfl ?_
        refine v_goto (pc2 := 168) C dX10_sine_164 rfl ?_
        exact r_lP C E hres dX10_sine_168
    have hres := (if_neg s10_0).symm.trans hres
    by_cases s10_1 : a1 = (1 : Int32)
    · have hres := (if_pos s10_1).symm.trans hres
      refine v_tabI (pc2 := 77) (j := 1) C dX10_sine_10 s10_1 (by decide +kernel) (by decide) rfl rfl ?_
      refine v_ldc2 (pc2 := 80) C lc_X10_105 dX10_sine_77 rfl ?_
      refine v_lstore_n (pc2 := 81) (lv2 := [(1, _), (0, _)]) C dX10_sine_80 (by decide) rfl rfl ?_
      refine v_goto (pc2 := 158) C dX10_sine_81 rfl ?_
      refine v_iload_n (pc2 := 159) C 1 dX10_sine_158 rfl rfl ?_
      refine v_ifge (pc2 := 167) (pc3 := 162) C dX10_sine_159 rfl rfl (fun h159 => ?_) (fun h159 => ?_)
      · have hres := (if_pos h159).symm.trans hres
        refine v_lload_n (pc2 := 168) C 0 dX10_sine_167 rfl rfl ?_
        exact r_lP C E hres dX10_sine_168
      · have hres := (if_neg h159).symm.trans hres
        refine v_lload_n (pc2 := 163) C 0 dX10_sine_162 rfl rfl ?_
        refine v_lneg (pc2 := 164) C dX10_sine_163 rfl ?_
        refine v_goto (pc2 := 168) C dX10_sine_164 rfl ?_
        exact r_lP C E hres dX10_sine_168
    have hres := (if_neg s10_1).symm.trans hres
    by_cases s10_2 : a1 = (2 : Int32)
    · have hres := (if_pos s10_2).symm.trans hres
      refine v_tabI (pc2 := 84) (j := 2) C dX10_sine_10 s10_2 (by decide +kernel) (by decide) rfl rfl ?_
      refine v_ldc2 (pc2 := 87) C lc_X10_107 dX10_sine_84 rfl ?_
      refine v_lstore_n (pc2 := 88) (lv2 := [(1, _), (0, _)]) C dX10_sine_87 (by decide) rfl rfl ?_
      refine v_goto (pc2 := 158) C dX10_sine_88 rfl ?_
      refine v_iload_n (pc2 := 159) C 1 dX10_sine_158 rfl rfl ?_
      refine v_ifge (pc2 := 167) (pc3 := 162) C dX10_sine_159 rfl rfl (fun h159 => ?_) (fun h159 => ?_)
      · have hres := (if_pos h159).symm.trans hres
        refine v_lload_n (pc2 := 168) C 0 dX10_sine_167 rfl rfl ?_
        exact r_lP C E hres dX10_sine_168
      · have hres := (if_neg h159).symm.trans hres
        refine v_lload_n (pc2 := 163) C 0 dX10_sine_162 rfl rfl ?_
        refine v_lneg (pc2 := 164) C dX10_sine_163 rfl ?_
        refine v_goto (pc2 := 168) C dX10_sine_164 rfl ?_
        exact r_lP C E hres dX10_sine_168
    have hres := (if_neg s10_2).symm.trans hres
    by_cases s10_3 : a1 = (3 : Int32)
    · have hres := (if_pos s10_3).symm.trans hres
      refine v_tabI (pc2 := 91) (j := 3) C dX10_sine_10 s10_3 (by decide +kernel) (by decide) rfl rfl ?_
      refine v_ldc2 (pc2 := 94) C lc_X10_109 dX10_sine_91 rfl ?_
      refine v_lstore_n (pc2 := 95) (lv2 := [(1, _), (0, _)]) C dX10_sine_94 (by decide) rfl rfl ?_
      refine v_goto (pc2 := 158) C dX10_sine_95 rfl ?_
      refine v_iload_n (pc2 := 159) C 1 dX10_sine_158 rfl rfl ?_
      refine v_ifge (pc2 := 167) (pc3 := 162) C dX10_sine_159 rfl rfl (fun h159 => ?_) (fun h159 => ?_)
      · have hres := (if_pos h159).symm.trans hres
        refine v_lload_n (pc2 := 168) C 0 dX10_sine_167 rfl rfl ?_
        exact r_lP C E hres dX10_sine_168
      · have hres := (if_neg h159).symm.trans hres
        refine v_lload_n (pc2 := 163) C 0 dX10_sine_162 rfl rfl ?_
        refine v_lneg (pc2 := 164) C dX10_sine_163 rfl ?_
        refine v_goto (pc2 := 168) C dX10_sine_164 rfl ?_
        exact r_lP C E hres dX10_sine_168
    have hres := (if_neg s10_3).symm.trans hres
    by_cases s10_4 : a1 = (4 : Int32)
    · have hres := (if_pos s10_4).symm.trans hres
      refine v_tabI (pc2 := 98) (j := 4) C dX10_sine_10 s10_4 (by decide +kernel) (by decide) rfl rfl ?_
      refine v_ldc2 (pc2 := 101) C lc_X10_111 dX10_sine_98 rfl ?_
      refine v_lstore_n (pc2 := 102) (lv2 := [(1, _), (0, _)]) C dX10_sine_101 (by decide) rfl rfl ?_
      refine v_goto (pc2 := 158) C dX10_sine_102 rfl ?_
      refine v_iload_n (pc2 := 159) C 1 dX10_sine_158 rfl rfl ?_
      refine v_ifge (pc2 := 167) (pc3 := 162) C dX10_sine_159 rfl rfl (fun h159 => ?_) (fun h159 => ?_)
      · have hres := (if_pos h159).symm.trans hres
        refine v_lload_n (pc2 := 168) C 0 dX10_sine_167 rfl rfl ?_
        exact r_lP C E hres dX10_sine_168
      · have hres := (if_neg h159).symm.trans hres
        refine v_lload_n (pc2 := 163) C 0 dX10_sine_162 rfl rfl ?_
        refine v_lneg (pc2 := 164) C dX10_sine_163 rfl ?_
        refine v_goto (pc2 := 168) C dX10_sine_164 rfl ?_
        exact r_lP C E hres dX10_sine_168
    have hres := (if_neg s10_4).symm.trans hres
    by_cases s10_5 : a1 = (5 : Int32)
    · have hres := (if_pos s10_5).symm.trans hres
      refine v_tabI (pc2 := 105) (j := 5) C dX10_sine_10 s10_5 (by decide +kernel) (by decide) rfl rfl ?_
      refine v_ldc2 (pc2 := 108) C lc_X10_113 dX10_sine_105 rfl ?_
      refine v_lstore_n (pc2 := 109) (lv2 := [(1, _), (0, _)]) C dX10_sine_108 (by decide) rfl rfl ?_
      refine v_goto (pc2 := 158) C dX10_sine_109 rfl ?_
      refine v_iload_n (pc2 := 159) C 1 dX10_sine_158 rfl rfl ?_
      refine v_ifge (pc2 := 167) (pc3 := 162) C dX10_sine_159 rfl rfl (fun h159 => ?_) (fun h159 => ?_)
      · have hres := (if_pos h159).symm.trans hres
        refine v_lload_n (pc2 := 168) C 0 dX10_sine_167 rfl rfl ?_
        exact r_lP C E hres dX10_sine_168
      · have hres := (if_neg h159).symm.trans hres
        refine v_lload_n (pc2 := 163) C 0 dX10_sine_162 rfl rfl ?_
        refine v_lneg (pc2 := 164) C dX10_sine_163 rfl ?_
        refine v_goto (pc2 := 168) C dX10_sine_164 rfl ?_
        exact r_lP C E hres dX10_sine_168
    have hres := (if_neg s10_5).symm.trans hres
    by_cases s10_6 : a1 = (6 : Int32)
    · have hres := (if_pos s10_6).symm.trans hres
      refine v_tabI (pc2 := 112) (j := 6) C dX10_sine_10 s10_6 (by decide +kernel) (by decide) rfl rfl ?_
      refine v_ldc2 (pc2 := 115) C lc_X10_103 dX10_sine_112 rfl ?_
      refine v_lstore_n (pc2 := 116) (lv2 := [(1, _), (0, _)]) C dX10_sine_115 (by decide) rfl rfl ?_
      refine v_goto (pc2 := 158) C dX10_sine_116 rfl ?_
      refine v_iload_n (pc2 := 159) C 1 dX10_sine_158 rfl rfl ?_
      refine v_ifge (pc2 := 167) (pc3 := 162) C dX10_sine_159 rfl rfl (fun h159 => ?_) (fun h159 => ?_)
      · have hres := (if_pos h159).symm.trans hres
        refine v_lload_n (pc2 := 168) C 0 dX10_sine_167 rfl rfl ?_
        exact r_lP C E hres dX10_sine_168
      · have hres := (if_neg h159).symm.trans hres
        refine v_lload_n (pc2 := 163) C 0 dX10_sine_162 rfl rfl ?_
        refine v_lneg (pc2 := 164) C dX10_sine_163 rfl ?_
        refine v_goto (pc2 := 168) C dX10_sine_164 rfl ?_
        exact r_lP C E hres dX10_sine_168
    have hres := (if_neg s10_6).symm.trans hres
    by_cases s10_7 : a1 = (7 : Int32)
    · have hres := (if_pos s10_7).symm.trans hres
      refine v_tabI (pc2 := 119) (j := 7) C dX10_sine_10 s10_7 (by decide +kernel) (by decide) rfl rfl ?_
      refine v_ldc2 (pc2 := 122) C lc_X10_101 dX10_sine_119 rfl ?_
      refine v_lstore_n (pc2 := 123) (lv2 := [(1, _), (0, _)]) C dX10_sine_122 (by decide) rfl rfl ?_
      refine v_goto (pc2 := 158) C dX10_sine_123 rfl ?_
      refine v_iload_n (pc2 := 159) C 1 dX10_sine_158 rfl rfl ?_
      refine v_ifge (pc2 := 167) (pc3 := 162) C dX10_sine_159 rfl rfl (fun h159 => ?_) (fun h159 => ?_)
      · have hres := (if_pos h159).symm.trans hres
        refine v_lload_n (pc2 := 168) C 0 dX10_sine_167 rfl rfl ?_
        exact r_lP C E hres dX10_sine_168
      · have hres := (if_neg h159).symm.trans hres
        refine v_lload_n (pc2 := 163) C 0 dX10_sine_162 rfl rfl ?_
        refine v_lneg (pc2 := 164) C dX10_sine_163 rfl ?_
        refine v_goto (pc2 := 168) C dX10_sine_164 rfl ?_
        exact r_lP C E hres dX10_sine_168
    have hres := (if_neg s10_7).symm.trans hres
    by_cases s10_8 : a1 = (8 : Int32)
    · have hres := (if_pos s10_8).symm.trans hres
      refine v_tabI (pc2 := 126) (j := 8) C dX10_sine_10 s10_8 (by decide +kernel) (by decide) rfl rfl ?_
      refine v_ldc2 (pc2 := 129) C lc_X10_99 dX10_sine_126 rfl ?_
      refine v_lstore_n (pc2 := 130) (lv2 := [(1, _), (0, _)]) C dX10_sine_129 (by decide) rfl rfl ?_
      refine v_goto (pc2 := 158) C dX10_sine_130 rfl ?_
      refine v_iload_n (pc2 := 159) C 1 dX10_sine_158 rfl rfl ?_
      refine v_ifge (pc2 := 167) (pc3 := 162) C dX10_sine_159 rfl rfl (fun h159 => ?_) (fun h159 => ?_)
      · have hres := (if_pos h159).symm.trans hres
        refine v_lload_n (pc2 := 168) C 0 dX10_sine_167 rfl rfl ?_
        exact r_lP C E hres dX10_sine_168
      · have hres := (if_neg h159).symm.trans hres
        refine v_lload_n (pc2 := 163) C 0 dX10_sine_162 rfl rfl ?_
        refine v_lneg (pc2 := 164) C dX10_sine_163 rfl ?_
        refine v_goto (pc2 := 168) C dX10_sine_164 rfl ?_
        exact r_lP C E hres dX10_sine_168
    have hres := (if_neg s10_8).symm.trans hres
    by_cases s10_9 : a1 = (9 : Int32)
    · have hres := (if_pos s10_9).symm.trans hres
      refine v_tabI (pc2 := 133) (j := 9) C dX10_sine_10 s10_9 (by decide +kernel) (by decide) rfl rfl ?_
      refine v_ldc2 (pc2 := 136) C lc_X10_97 dX10_sine_133 rfl ?_
      refine v_lstore_n (pc2 := 137) (lv2 := [(1, _), (0, _)]) C dX10_sine_136 (by decide) rfl rfl ?_
      refine v_goto (pc2 := 158) C dX10_sine_137 rfl ?_
      refine v_iload_n (pc2 := 159) C 1 dX10_sine_158 rfl rfl ?_
      refine v_ifge (pc2 := 167) (pc3 := 162) C dX10_sine_159 rfl rfl (fun h159 => ?_) (fun h159 => ?_)
      · have hres := (if_pos h159).symm.trans hres
        refine v_lload_n (pc2 := 168) C 0 dX10_sine_167 rfl rfl ?_
        exact r_lP C E hres dX10_sine_168
      · have hres := (if_neg h159).symm.trans hres
        refine v_lload_n (pc2 := 163) C 0 dX10_sine_162 rfl rfl ?_
        refine v_lneg (pc2 := 164) C dX10_sine_163 rfl ?_
        refine v_goto (pc2 := 168) C dX10_sine_164 rfl ?_
        exact r_lP C E hres dX10_sine_168
    have hres := (if_neg s10_9).symm.trans hres
    by_cases s10_10 : a1 = (10 : Int32)
    · have hres := (if_pos s10_10).symm.trans hres
      refine v_tabI (pc2 := 140) (j := 10) C dX10_sine_10 s10_10 (by decide +kernel) (by decide) rfl rfl ?_
      refine v_ldc2 (pc2 := 143) C lc_X10_95 dX10_sine_140 rfl ?_
      refine v_lstore_n (pc2 := 144) (lv2 := [(1, _), (0, _)]) C dX10_sine_143 (by decide) rfl rfl ?_
      refine v_goto (pc2 := 158) C dX10_sine_144 rfl ?_
      refine v_iload_n (pc2 := 159) C 1 dX10_sine_158 rfl rfl ?_
      refine v_ifge (pc2 := 167) (pc3 := 162) C dX10_sine_159 rfl rfl (fun h159 => ?_) (fun h159 => ?_)
      · have hres := (if_pos h159).symm.trans hres
        refine v_lload_n (pc2 := 168) C 0 dX10_sine_167 rfl rfl ?_
        exact r_lP C E hres dX10_sine_168
      · have hres := (if_neg h159).symm.trans hres
        refine v_lload_n (pc2 := 163) C 0 dX10_sine_162 rfl rfl ?_
        refine v_lneg (pc2 := 164) C dX10_sine_163 rfl ?_
        refine v_goto (pc2 := 168) C dX10_sine_164 rfl ?_
        exact r_lP C E hres dX10_sine_168
    have hres := (if_neg s10_10).symm.trans hres
    by_cases s10_11 : a1 = (11 : Int32)
    · have hres := (if_pos s10_11).symm.trans hres
      refine v_tabI (pc2 := 147) (j := 11) C dX10_sine_10 s10_11 (by decide +kernel) (by decide) rfl rfl ?_
      refine v_ldc2 (pc2 := 150) C lc_X10_93 dX10_sine_147 rfl ?_
      refine v_lstore_n (pc2 := 151) (lv2 := [(1, _), (0, _)]) C dX10_sine_150 (by decide) rfl rfl ?_
      refine v_goto (pc2 := 158) C dX10_sine_151 rfl ?_
      refine v_iload_n (pc2 := 159) C 1 dX10_sine_158 rfl rfl ?_
      refine v_ifge (pc2 := 167) (pc3 := 162) C dX10_sine_159 rfl rfl (fun h159 => ?_) (fun h159 => ?_)
      · have hres := (if_pos h159).symm.trans hres
        refine v_lload_n (pc2 := 168) C 0 dX10_sine_167 rfl rfl ?_
        exact r_lP C E hres dX10_sine_168
      · have hres := (if_neg h159).symm.trans hres
        refine v_lload_n (pc2 := 163) C 0 dX10_sine_162 rfl rfl ?_
        refine v_lneg (pc2 := 164) C dX10_sine_163 rfl ?_
        refine v_goto (pc2 := 168) C dX10_sine_164 rfl ?_
        exact r_lP C E hres dX10_sine_168
    have hres := (if_neg s10_11).symm.trans hres
    refine v_tabO (pc2 := 154) C dX10_sine_10 (by have e0 := t_neq s10_0 rfl (show ((0 : Int32)).toInt = 0 by decide +kernel); have e1 := t_neq s10_1 rfl (show ((1 : Int32)).toInt = 1 by decide +kernel); have e2 := t_neq s10_2 rfl (show ((2 : Int32)).toInt = 2 by decide +kernel); have e3 := t_neq s10_3 rfl (show ((3 : Int32)).toInt = 3 by decide +kernel); have e4 := t_neq s10_4 rfl (show ((4 : Int32)).toInt = 4 by decide +kernel); have e5 := t_neq s10_5 rfl (show ((5 : Int32)).toInt = 5 by decide +kernel); have e6 := t_neq s10_6 rfl (show ((6 : Int32)).toInt = 6 by decide +kernel); have e7 := t_neq s10_7 rfl (show ((7 : Int32)).toInt = 7 by decide +kernel); have e8 := t_neq s10_8 rfl (show ((8 : Int32)).toInt = 8 by decide +kernel); have e9 := t_neq s10_9 rfl (show ((9 : Int32)).toInt = 9 by decide +kernel); have e10 := t_neq s10_10 rfl (show ((10 : Int32)).toInt = 10 by decide +kernel); have e11 := t_neq s10_11 rfl (show ((11 : Int32)).toInt = 11 by decide +kernel); omega) rfl ?_
    refine v_ldc2 (pc2 := 157) C lc_X10_91 dX10_sine_154 rfl ?_
    refine v_lstore_n (pc2 := 158) (lv2 := [(1, _), (0, _)]) C dX10_sine_157 (by decide) rfl rfl ?_
    refine v_iload_n (pc2 := 159) C 1 dX10_sine_158 rfl rfl ?_
    refine v_ifge (pc2 := 167) (pc3 := 162) C dX10_sine_159 rfl rfl (fun h159 => ?_) (fun h159 => ?_)
    · have hres := (if_pos h159).symm.trans hres
      refine v_lload_n (pc2 := 168) C 0 dX10_sine_167 rfl rfl ?_
      exact r_lP C E hres dX10_sine_168
    · have hres := (if_neg h159).symm.trans hres
      refine v_lload_n (pc2 := 163) C 0 dX10_sine_162 rfl rfl ?_
      refine v_lneg (pc2 := 164) C dX10_sine_163 rfl ?_
      refine v_goto (pc2 := 168) C dX10_sine_164 rfl ?_
      exact r_lP C E hres dX10_sine_168
  · have hres := (if_neg h1).symm.trans hres
    refine v_iload_n (pc2 := 5) C 0 dX10_sine_4 rfl rfl ?_
    refine v_ineg (pc2 := 6) C dX10_sine_5 rfl ?_
    refine v_goto (pc2 := 10) C dX10_sine_6 rfl ?_
    by_cases s10_0 : (-a1) = (0 : Int32)
    · have hres := (if_pos s10_0).symm.trans hres
      refine v_tabI (pc2 := 72) (j := 0) C dX10_sine_10 s10_0 (by decide +kernel) (by decide) rfl rfl ?_
      refine v_lconst (pc2 := 73) C dX10_sine_72 kl_0 rfl ?_
      refine v_lstore_n (pc2 := 74) (lv2 := [(1, _), (0, _)]) C dX10_sine_73 (by decide) rfl rfl ?_
      refine v_goto (pc2 := 158) C dX10_sine_74 rfl ?_
      refine v_iload_n (pc2 := 159) C 1 dX10_sine_158 rfl rfl ?_
      refine v_ifge (pc2 := 167) (pc3 := 162) C dX10_sine_159 rfl rfl (fun h159 => ?_) (fun h159 => ?_)
      · have hres := (if_pos h159).symm.trans hres
        refine v_lload_n (pc2 := 168) C 0 dX10_sine_167 rfl rfl ?_
        exact r_lP C E hres dX10_sine_168
      · have hres := (if_neg h159).symm.trans hres
        refine v_lload_n (pc2 := 163) C 0 dX10_sine_162 rfl rfl ?_
        refine v_lneg (pc2 := 164) C dX10_sine_163 rfl ?_
        refine v_goto (pc2 := 168) C dX10_sine_164 rfl ?_
        exact r_lP C E hres dX10_sine_168
    have hres := (if_neg s10_0).symm.trans hres
    by_cases s10_1 : (-a1) = (1 : Int32)
    · have hres := (if_pos s10_1).symm.trans hres
      refine v_tabI (pc2 := 77) (j := 1) C dX10_sine_10 s10_1 (by decide +kernel) (by decide) rfl rfl ?_
      refine v_ldc2 (pc2 := 80) C lc_X10_105 dX10_sine_77 rfl ?_
      refine v_lstore_n (pc2 := 81) (lv2 := [(1, _), (0, _)]) C dX10_sine_80 (by decide) rfl rfl ?_
      refine v_goto (pc2 := 158) C dX10_sine_81 rfl ?_
      refine v_iload_n (pc2 := 159) C 1 dX10_sine_158 rfl rfl ?_
      refine v_ifge (pc2 := 167) (pc3 := 162) C dX10_sine_159 rfl rfl (fun h159 => ?_) (fun h159 => ?_)
      · have hres := (if_pos h159).symm.trans hres
        refine v_lload_n (pc2 := 168) C 0 dX10_sine_167 rfl rfl ?_
        exact r_lP C E hres dX10_sine_168
      · have hres := (if_neg h159).symm.trans hres
        refine v_lload_n (pc2 := 163) C 0 dX10_sine_162 rfl rfl ?_
        refine v_lneg (pc2 := 164) C dX10_sine_163 rfl ?_
        refine v_goto (pc2 := 168) C dX10_sine_164 rfl ?_
        exact r_lP C E hres dX10_sine_168
    have hres := (if_neg s10_1).symm.trans hres
    by_cases s10_2 : (-a1) = (2 : Int32)
    · have hres := (if_pos s10_2).symm.trans hres
      refine v_tabI (pc2 := 84) (j := 2) C dX10_sine_10 s10_2 (by decide +kernel) (by decide) rfl rfl ?_
      refine v_ldc2 (pc2 := 87) C lc_X10_107 dX10_sine_84 rfl ?_
      refine v_lstore_n (pc2 := 88) (lv2 := [(1, _), (0, _)]) C dX10_sine_87 (by decide) rfl rfl ?_
      refine v_goto (pc2 := 158) C dX10_sine_88 rfl ?_
      refine v_iload_n (pc2 := 159) C 1 dX10_sine_158 rfl rfl ?_
      refine v_ifge (pc2 := 167) (pc3 := 162) C dX10_sine_159 rfl rfl (fun h159 => ?_) (fun h159 => ?_)
      · have hres := (if_pos h159).symm.trans hres
        refine v_lload_n (pc2 := 168) C 0 dX10_sine_167 rfl rfl ?_
        exact r_lP C E hres dX10_sine_168
      · have hres := (if_neg h159).symm.trans hres
        refine v_lload_n (pc2 := 163) C 0 dX10_sine_162 rfl rfl ?_
        refine v_lneg (pc2 := 164) C dX10_sine_163 rfl ?_
        refine v_goto (pc2 := 168) C dX10_sine_164 rfl ?_
        exact r_lP C E hres dX10_sine_168
    have hres := (if_neg s10_2).symm.trans hres
    by_cases s10_3 : (-a1) = (3 : Int32)
    · have hres := (if_pos s10_3).symm.trans hres
      refine v_tabI (pc2 := 91) (j := 3) C dX10_sine_10 s10_3 (by decide +kernel) (by decide) rfl rfl ?_
      refine v_ldc2 (pc2 := 94) C lc_X10_109 dX10_sine_91 rfl ?_
      refine v_lstore_n (pc2 := 95) (lv2 := [(1, _), (0, _)]) C dX10_sine_94 (by decide) rfl rfl ?_
      refine v_goto (pc2 := 158) C dX10_sine_95 rfl ?_
      refine v_iload_n (pc2 := 159) C 1 dX10_sine_158 rfl rfl ?_
      refine v_ifge (pc2 := 167) (pc3 := 162) C dX10_sine_159 rfl rfl (fun h159 => ?_) (fun h159 => ?_)
      · have hres := (if_pos h159).symm.trans hres
        refine v_lload_n (pc2 := 168) C 0 dX10_sine_167 rfl rfl ?_
        exact r_lP C E hres dX10_sine_168
      · have hres := (if_neg h159).symm.trans hres
        refine v_lload_n (pc2 := 163) C 0 dX10_sine_162 rfl rfl ?_
        refine v_lneg (pc2 := 164) C dX10_sine_163 rfl ?_
        refine v_goto (pc2 := 168) C dX10_sine_164 rfl ?_
        exact r_lP C E hres dX10_sine_168
    have hres := (if_neg s10_3).symm.trans hres
    by_cases s10_4 : (-a1) = (4 : Int32)
    · have hres := (if_pos s10_4).symm.trans hres
      refine v_tabI (pc2 := 98) (j := 4) C dX10_sine_10 s10_4 (by decide +kernel) (by decide) rfl rfl ?_
      refine v_ldc2 (pc2 := 101) C lc_X10_111 dX10_sine_98 rfl ?_
      refine v_lstore_n (pc2 := 102) (lv2 := [(1, _), (0, _)]) C dX10_sine_101 (by decide) rfl rfl ?_
      refine v_goto (pc2 := 158) C dX10_sine_102 rfl ?_
      refine v_iload_n (pc2 := 159) C 1 dX10_sine_158 rfl rfl ?_
      refine v_ifge (pc2 := 167) (pc3 := 162) C dX10_sine_159 rfl rfl (fun h159 => ?_) (fun h159 => ?_)
      · have hres := (if_pos h159).symm.trans hres
        refine v_lload_n (pc2 := 168) C 0 dX10_sine_167 rfl rfl ?_
        exact r_lP C E hres dX10_sine_168
      · have hres := (if_neg h159).symm.trans hres
        refine v_lload_n (pc2 := 163) C 0 dX10_sine_162 rfl rfl ?_
        refine v_lneg (pc2 := 164) C dX10_sine_163 rfl ?_
        refine v_goto (pc2 := 168) C dX10_sine_164 rfl ?_
        exact r_lP C E hres dX10_sine_168
    have hres := (if_neg s10_4).symm.trans hres
    by_cases s10_5 : (-a1) = (5 : Int32)
    · have hres := (if_pos s10_5).symm.trans hres
      refine v_tabI (pc2 := 105) (j := 5) C dX10_sine_10 s10_5 (by decide +kernel) (by decide) rfl rfl ?_
      refine v_ldc2 (pc2 := 108) C lc_X10_113 dX10_sine_105 rfl ?_
      refine v_lstore_n (pc2 := 109) (lv2 := [(1, _), (0, _)]) C dX10_sine_108 (by decide) rfl rfl ?_
      refine v_goto (pc2 := 158) C dX10_sine_109 rfl ?_
      refine v_iload_n (pc2 := 159) C 1 dX10_sine_158 rfl rfl ?_
      refine v_ifge (pc2 := 167) (pc3 := 162) C dX10_sine_159 rfl rfl (fun h159 => ?_) (fun h159 => ?_)
      · have hres := (if_pos h159).symm.trans hres
        refine v_lload_n (pc2 := 168) C 0 dX10_sine_167 rfl rfl ?_
        exact r_lP C E hres dX10_sine_168
      · have hres := (if_neg h159).symm.trans hres
        refine v_lload_n (pc2 := 163) C 0 dX10_sine_162 rfl rfl ?_
        refine v_lneg (pc2 := 164) C dX10_sine_163 rfl ?_
        refine v_goto (pc2 := 168) C dX10_sine_164 rfl ?_
        exact r_lP C E hres dX10_sine_168
    have hres := (if_neg s10_5).symm.trans hres
    by_cases s10_6 : (-a1) = (6 : Int32)
    · have hres := (if_pos s10_6).symm.trans hres
      refine v_tabI (pc2 := 112) (j := 6) C dX10_sine_10 s10_6 (by decide +kernel) (by decide) rfl rfl ?_
      refine v_ldc2 (pc2 := 115) C lc_X10_103 dX10_sine_112 rfl ?_
      refine v_lstore_n (pc2 := 116) (lv2 := [(1, _), (0, _)]) C dX10_sine_115 (by decide) rfl rfl ?_
      refine v_goto (pc2 := 158) C dX10_sine_116 rfl ?_
      refine v_iload_n (pc2 := 159) C 1 dX10_sine_158 rfl rfl ?_
      refine v_ifge (pc2 := 167) (pc3 := 162) C dX10_sine_159 rfl rfl (fun h159 => ?_) (fun h159 => ?_)
      · have hres := (if_pos h159).symm.trans hres
        refine v_lload_n (pc2 := 168) C 0 dX10_sine_167 rfl rfl ?_
        exact r_lP C E hres dX10_sine_168
      · have hres := (if_neg h159).symm.trans hres
        refine v_lload_n (pc2 := 163) C 0 dX10_sine_162 rfl rfl ?_
        refine v_lneg (pc2 := 164) C dX10_sine_163 rfl ?_
        refine v_goto (pc2 := 168) C dX10_sine_164 rfl ?_
        exact r_lP C E hres dX10_sine_168
    have hres := (if_neg s10_6).symm.trans hres
    by_cases s10_7 : (-a1) = (7 : Int32)
    · have hres := (if_pos s10_7).symm.trans hres
      refine v_tabI (pc2 := 119) (j := 7) C dX10_sine_10 s10_7 (by decide +kernel) (by decide) rfl rfl ?_
      refine v_ldc2 (pc2 := 122) C lc_X10_101 dX10_sine_119 rfl ?_
      refine v_lstore_n (pc2 := 123) (lv2 := [(1, _), (0, _)]) C dX10_sine_122 (by decide) rfl rfl ?_
      refine v_goto (pc2 := 158) C dX10_sine_123 rfl ?_
      refine v_iload_n (pc2 := 159) C 1 dX10_sine_158 rfl rfl ?_
      refine v_ifge (pc2 := 167) (pc3 := 162) C dX10_sine_159 rfl rfl (fun h159 => ?_) (fun h159 => ?_)
      · have hres := (if_pos h159).symm.trans hres
        refine v_lload_n (pc2 := 168) C 0 dX10_sine_167 rfl rfl ?_
        exact r_lP C E hres dX10_sine_168
      · have hres := (if_neg h159).symm.trans hres
        refine v_lload_n (pc2 := 163) C 0 dX10_sine_162 rfl rfl ?_
        refine v_lneg (pc2 := 164) C dX10_sine_163 rfl ?_
        refine v_goto (pc2 := 168) C dX10_sine_164 rfl ?_
        exact r_lP C E hres dX10_sine_168
    have hres := (if_neg s10_7).symm.trans hres
    by_cases s10_8 : (-a1) = (8 : Int32)
    · have hres := (if_pos s10_8).symm.trans hres
      refine v_tabI (pc2 := 126) (j := 8) C dX10_sine_10 s10_8 (by decide +kernel) (by decide) rfl rfl ?_
      refine v_ldc2 (pc2 := 129) C lc_X10_99 dX10_sine_126 rfl ?_
      refine v_lstore_n (pc2 := 130) (lv2 := [(1, _), (0, _)]) C dX10_sine_129 (by decide) rfl rfl ?_
      refine v_goto (pc2 := 158) C dX10_sine_130 rfl ?_
      refine v_iload_n (pc2 := 159) C 1 dX10_sine_158 rfl rfl ?_
      refine v_ifge (pc2 := 167) (pc3 := 162) C dX10_sine_159 rfl rfl (fun h159 => ?_) (fun h159 => ?_)
      · have hres := (if_pos h159).symm.trans hres
        refine v_lload_n (pc2 := 168) C 0 dX10_sine_167 rfl rfl ?_
        exact r_lP C E hres dX10_sine_168
      · have hres := (if_neg h159).symm.trans hres
        refine v_lload_n (pc2 := 163) C 0 dX10_sine_162 rfl rfl ?_
        refine v_lneg (pc2 := 164) C dX10_sine_163 rfl ?_
        refine v_goto (pc2 := 168) C dX10_sine_164 rfl ?_
        exact r_lP C E hres dX10_sine_168
    have hres := (if_neg s10_8).symm.trans hres
    by_cases s10_9 : (-a1) = (9 : Int32)
    · have hres := (if_pos s10_9).symm.trans hres
      refine v_tabI (pc2 := 133) (j := 9) C dX10_sine_10 s10_9 (by decide +kernel) (by decide) rfl rfl ?_
      refine v_ldc2 (pc2 := 136) C lc_X10_97 dX10_sine_133 rfl ?_
      refine v_lstore_n (pc2 := 137) (lv2 := [(1, _), (0, _)]) C dX10_sine_136 (by decide) rfl rfl ?_
      refine v_goto (pc2 := 158) C dX10_sine_137 rfl ?_
      refine v_iload_n (pc2 := 159) C 1 dX10_sine_158 rfl rfl ?_
      refine v_ifge (pc2 := 167) (pc3 := 162) C dX10_sine_159 rfl rfl (fun h159 => ?_) (fun h159 => ?_)
      · have hres := (if_pos h159).symm.trans hres
        refine v_lload_n (pc2 := 168) C 0 dX10_sine_167 rfl rfl ?_
        exact r_lP C E hres dX10_sine_168
      · have hres := (if_neg h159).symm.trans hres
        refine v_lload_n (pc2 := 163) C 0 dX10_sine_162 rfl rfl ?_
        refine v_lneg (pc2 := 164) C dX10_sine_163 rfl ?_
        refine v_goto (pc2 := 168) C dX10_sine_164 rfl ?_
        exact r_lP C E hres dX10_sine_168
    have hres := (if_neg s10_9).symm.trans hres
    by_cases s10_10 : (-a1) = (10 : Int32)
    · have hres := (if_pos s10_10).symm.trans hres
      refine v_tabI (pc2 := 140) (j := 10) C dX10_sine_10 s10_10 (by decide +kernel) (by decide) rfl rfl ?_
      refine v_ldc2 (pc2 := 143) C lc_X10_95 dX10_sine_140 rfl ?_
      refine v_lstore_n (pc2 := 144) (lv2 := [(1, _), (0, _)]) C dX10_sine_143 (by decide) rfl rfl ?_
      refine v_goto (pc2 := 158) C dX10_sine_144 rfl ?_
      refine v_iload_n (pc2 := 159) C 1 dX10_sine_158 rfl rfl ?_
      refine v_ifge (pc2 := 167) (pc3 := 162) C dX10_sine_159 rfl rfl (fun h159 => ?_) (fun h159 => ?_)
      · have hres := (if_pos h159).symm.trans hres
        refine v_lload_n (pc2 := 168) C 0 dX10_sine_167 rfl rfl ?_
        exact r_lP C E hres dX10_sine_168
      · have hres := (if_neg h159).symm.trans hres
        refine v_lload_n (pc2 := 163) C 0 dX10_sine_162 rfl rfl ?_
        refine v_lneg (pc2 := 164) C dX10_sine_163 rfl ?_
        refine v_goto (pc2 := 168) C dX10_sine_164 rfl ?_
        exact r_lP C E hres dX10_sine_168
    have hres := (if_neg s10_10).symm.trans hres
    by_cases s10_11 : (-a1) = (11 : Int32)
    · have hres := (if_pos s10_11).symm.trans hres
      refine v_tabI (pc2 := 147) (j := 11) C dX10_sine_10 s10_11 (by decide +kernel) (by decide) rfl rfl ?_
      refine v_ldc2 (pc2 := 150) C lc_X10_93 dX10_sine_147 rfl ?_
      refine v_lstore_n (pc2 := 151) (lv2 := [(1, _), (0, _)]) C dX10_sine_150 (by decide) rfl rfl ?_
      refine v_goto (pc2 := 158) C dX10_sine_151 rfl ?_
      refine v_iload_n (pc2 := 159) C 1 dX10_sine_158 rfl rfl ?_
      refine v_ifge (pc2 := 167) (pc3 := 162) C dX10_sine_159 rfl rfl (fun h159 => ?_) (fun h159 => ?_)
      · have hres := (if_pos h159).symm.trans hres
        refine v_lload_n (pc2 := 168) C 0 dX10_sine_167 rfl rfl ?_
        exact r_lP C E hres dX10_sine_168
      · have hres := (if_neg h159).symm.trans hres
        refine v_lload_n (pc2 := 163) C 0 dX10_sine_162 rfl rfl ?_
        refine v_lneg (pc2 := 164) C dX10_sine_163 rfl ?_
        refine v_goto (pc2 := 168) C dX10_sine_164 rfl ?_
        exact r_lP C E hres dX10_sine_168
    have hres := (if_neg s10_11).symm.trans hres
    refine v_tabO (pc2 := 154) C dX10_sine_10 (by have e0 := t_neq s10_0 rfl (show ((0 : Int32)).toInt = 0 by decide +kernel); have e1 := t_neq s10_1 rfl (show ((1 : Int32)).toInt = 1 by decide +kernel); have e2 := t_neq s10_2 rfl (show ((2 : Int32)).toInt = 2 by decide +kernel); have e3 := t_neq s10_3 rfl (show ((3 : Int32)).toInt = 3 by decide +kernel); have e4 := t_neq s10_4 rfl (show ((4 : Int32)).toInt = 4 by decide +kernel); have e5 := t_neq s10_5 rfl (show ((5 : Int32)).toInt = 5 by decide +kernel); have e6 := t_neq s10_6 rfl (show ((6 : Int32)).toInt = 6 by decide +kernel); have e7 := t_neq s10_7 rfl (show ((7 : Int32)).toInt = 7 by decide +kernel); have e8 := t_neq s10_8 rfl (show ((8 : Int32)).toInt = 8 by decide +kernel); have e9 := t_neq s10_9 rfl (show ((9 : Int32)).toInt = 9 by decide +kernel); have e10 := t_neq s10_10 rfl (show ((10 : Int32)).toInt = 10 by decide +kernel); have e11 := t_neq s10_11 rfl (show ((11 : Int32)).toInt = 11 by decide +kernel); omega) rfl ?_
    refine v_ldc2 (pc2 := 157) C lc_X10_91 dX10_sine_154 rfl ?_
    refine v_lstore_n (pc2 := 158) (lv2 := [(1, _), (0, _)]) C dX10_sine_157 (by decide) rfl rfl ?_
    refine v_iload_n (pc2 := 159) C 1 dX10_sine_158 rfl rfl ?_
    refine v_ifge (pc2 := 167) (pc3 := 162) C dX10_sine_159 rfl rfl (fun h159 => ?_) (fun h159 => ?_)
    · have hres := (if_pos h159).symm.trans hres
      refine v_lload_n (pc2 := 168) C 0 dX10_sine_167 rfl rfl ?_
      exact r_lP C E hres dX10_sine_168
    · have hres := (if_neg h159).symm.trans hres
      refine v_lload_n (pc2 := 163) C 0 dX10_sine_162 rfl rfl ?_
      refine v_lneg (pc2 := 164) C dX10_sine_163 rfl ?_
      refine v_goto (pc2 := 168) C dX10_sine_164 rfl ?_
      exact r_lP C E hres dX10_sine_168
theorem mX10_sine (l : Launch) (Λ : LY) (σ : St) (a1 : Int32)  : CT l Λ yX10_sine cX10_sine 3 (some .long) 0 0 [.int (a1)] σ (some (.long (f10_sine a1))) σ := by
  refine CT_of (by decide +kernel) (Nat.le_of_ble_eq_true rfl) ?_
  intro X hX C E
  obtain ⟨res, hres⟩ : ∃ r, (f10_sine a1) = r := ⟨_, rfl⟩
  rw [hres] at E
  exact bf10_sine C E _   hres
def f10_setSun (σ : St) (a1 : Int32) (a2 : Int32) (a3 : Int32) : St :=
  (uA (uA σ 27 (Int32.toNatClampNeg a1) a2) 28 (Int32.toNatClampNeg a1) a3)
set_option maxHeartbeats 4000000 in
set_option maxRecDepth 100000 in
theorem bf10_setSun {X : CX} {Λ : LY} (C : OK X Λ cX10_setSun 4 RX10 0 0) {res : St} (E : EN X Λ none none res) (σ : St) (a1 : Int32) (a2 : Int32) (a3 : Int32) (h1 : vp_in a1 24) (hres : (f10_setSun σ a1 a2 a3) = res) : VV X Λ 4 0 [(0, .ref (adr Λ 37)), (1, .int (a1)), (2, .int (a2)), (3, .int (a3))] [] σ := by
  unfold f10_setSun at hres
  refine v_aload_n (pc2 := 1) C 0 dX10_setSun_0 rfl rfl ?_
  refine vg_X10_sunX (pc2 := 4) C lf_X10_31 dX10_setSun_1 rfl ?_
  refine v_iload_n (pc2 := 5) C 1 dX10_setSun_4 rfl rfl ?_
  refine v_iload_n (pc2 := 6) C 2 dX10_setSun_5 rfl rfl ?_
  refine as45 (pc2 := 7) C h1 dX10_setSun_6 rfl ?_
  refine v_aload_n (pc2 := 8) C 0 dX10_setSun_7 rfl rfl ?_
  refine vg_X10_sunY (pc2 := 11) C lf_X10_34 dX10_setSun_8 rfl ?_
  refine v_iload_n (pc2 := 12) C 1 dX10_setSun_11 rfl rfl ?_
  refine v_iload_n (pc2 := 13) C 3 dX10_setSun_12 rfl rfl ?_
  refine as46 (pc2 := 14) C h1 dX10_setSun_13 rfl ?_
  exact r_vS C E hres dX10_setSun_14
theorem mX10_setSun (l : Launch) (Λ : LY) (σ : St) (a1 : Int32) (a2 : Int32) (a3 : Int32) (h1 : vp_in a1 24) : CT l Λ yX10_setSun cX10_setSun 4 none 0 0 [.ref (adr Λ 37), .int (a1), .int (a2), .int (a3)] σ none (f10_setSun σ a1 a2 a3) := by
  refine CT_of (by decide +kernel) (Nat.le_of_ble_eq_true rfl) ?_
  intro X hX C E
  obtain ⟨res, hres⟩ : ∃ r, (f10_setSun σ a1 a2 a3) = r := ⟨_, rfl⟩
  rw [hres] at E
  exact bf10_setSun C E _ _ _ _  h1 hres
def f10_stepAt (σ : St) (a1 : Int32) : Int32 :=
  (if (gI σ 29) = (99 : Int32) then (gA σ 25 (Int32.toNatClampNeg a1)) else (if (gA σ 20 (Int32.toNatClampNeg a1)) = (1 : Int32) then (gA σ 25 (Int32.toNatClampNeg a1)) else (gI σ 29)))
set_option maxHeartbeats 4000000 in
set_option maxRecDepth 100000 in
theorem bf10_stepAt {X : CX} {Λ : LY} (C : OK X Λ cX10_stepAt 2 RX10 0 0) {σ : St} {res : Int32} (E : EN X Λ (some .int) (some (.int res)) σ) (a1 : Int32) (h1 : vp_in a1 10) (hres : (f10_stepAt σ a1) = res) : VV X Λ 2 0 [(0, .ref (adr Λ 37)), (1, .int (a1))] [] σ := by
  unfold f10_stepAt at hres
  refine v_aload_n (pc2 := 1) C 0 dX10_stepAt_0 rfl rfl ?_
  refine vg_X10_tried (pc2 := 4) C lf_X10_64 dX10_stepAt_1 rfl ?_
  refine v_bipush (pc2 := 6) C dX10_stepAt_4 kb_99 rfl ?_
  refine v_icmpeq (pc2 := 19) (pc3 := 9) C dX10_stepAt_6 rfl rfl (fun h6 => ?_) (fun h6 => ?_)
  · have hres := (if_pos h6).symm.trans hres
    refine v_aload_n (pc2 := 20) C 0 dX10_stepAt_19 rfl rfl ?_
    refine vg_X10_stepOf (pc2 := 23) C lf_X10_25 dX10_stepAt_20 rfl ?_
    refine v_iload_n (pc2 := 24) C 1 dX10_stepAt_23 rfl rfl ?_
    refine al43 (pc2 := 25) C h1 dX10_stepAt_24 rfl ?_
    refine v_goto (pc2 := 32) C dX10_stepAt_25 rfl ?_
    exact r_iP C E hres dX10_stepAt_32
  · have hres := (if_neg h6).symm.trans hres
    refine v_aload_n (pc2 := 10) C 0 dX10_stepAt_9 rfl rfl ?_
    refine vg_X10_kindOf (pc2 := 13) C lf_X10_9 dX10_stepAt_10 rfl ?_
    refine v_iload_n (pc2 := 14) C 1 dX10_stepAt_13 rfl rfl ?_
    refine al38 (pc2 := 15) C h1 dX10_stepAt_14 rfl ?_
    refine v_iconst (pc2 := 16) C dX10_stepAt_15 ki_1 rfl ?_
    refine v_icmpne (pc2 := 28) (pc3 := 19) C dX10_stepAt_16 rfl rfl (fun h16 => ?_) (fun h16 => ?_)
    · have hres := (if_neg h16).symm.trans hres
      refine v_aload_n (pc2 := 29) C 0 dX10_stepAt_28 rfl rfl ?_
      refine vg_X10_tried (pc2 := 32) C lf_X10_64 dX10_stepAt_29 rfl ?_
      exact r_iP C E hres dX10_stepAt_32
    · have hres := (if_pos h16).symm.trans hres
      refine v_aload_n (pc2 := 20) C 0 dX10_stepAt_19 rfl rfl ?_
      refine vg_X10_stepOf (pc2 := 23) C lf_X10_25 dX10_stepAt_20 rfl ?_
      refine v_iload_n (pc2 := 24) C 1 dX10_stepAt_23 rfl rfl ?_
      refine al43 (pc2 := 25) C h1 dX10_stepAt_24 rfl ?_
      refine v_goto (pc2 := 32) C dX10_stepAt_25 rfl ?_
      exact r_iP C E hres dX10_stepAt_32
theorem mX10_stepAt (l : Launch) (Λ : LY) (σ : St) (a1 : Int32) (h1 : vp_in a1 10) : CT l Λ yX10_stepAt cX10_stepAt 2 (some .int) 0 0 [.ref (adr Λ 37), .int (a1)] σ (some (.int (f10_stepAt σ a1))) σ := by
  refine CT_of (by decide +kernel) (Nat.le_of_ble_eq_true rfl) ?_
  intro X hX C E
  obtain ⟨res, hres⟩ : ∃ r, (f10_stepAt σ a1) = r := ⟨_, rfl⟩
  rw [hres] at E
  exact bf10_stepAt C E _  h1 hres
def f10_look_sd (a2 : Int32) : Int64 :=
  (if a2 = (0 : Int32) then (-1 : Int64) else (1 : Int64))
set_option maxHeartbeats 4000000 in
set_option maxRecDepth 100000 in
theorem bf10_look_sd {X : CX} {Λ : LY} (C : OK X Λ cX10_look 11 RX10 1 22) (σ : St) {out : Int64} (a1 : Int32) (a2 : Int32) (a3 : Int32) (sp : Int32) (kk : VV X Λ 11 18 [(0, .ref (adr Λ 37)), (1, .int (a1)), (2, .int (a2)), (3, .int (a3)), (4, .int (sp))] [.long (out)] (σ))  (hres : (f10_look_sd a2) = out) : VV X Λ 11 7 [(0, .ref (adr Λ 37)), (1, .int (a1)), (2, .int (a2)), (3, .int (a3)), (4, .int (sp))] [] σ := by
  unfold f10_look_sd at hres
  refine v_iload_n (pc2 := 8) C 2 dX10_look_7 rfl rfl ?_
  refine v_ifne (pc2 := 17) (pc3 := 11) C dX10_look_8 rfl rfl (fun h8 => ?_) (fun h8 => ?_)
  · have hres := (if_neg h8).symm.trans hres
    refine v_lconst (pc2 := 18) C dX10_look_17 kl_1 rfl ?_
    subst hres
    exact v_lv [0, 1, 2, 3, 4] rfl kk
  · have hres := (if_pos h8).symm.trans hres
    refine v_ldc2 (pc2 := 14) C lc_X10_147 dX10_look_11 rfl ?_
    refine v_goto (pc2 := 18) C dX10_look_14 rfl ?_
    subst hres
    exact v_lv [0, 1, 2, 3, 4] rfl kk
def f10_look (σ : St) (a1 : Int32) (a2 : Int32) (a3 : Int32) : Int64 :=
  (((((20000 : Int64) * (Int32.toInt64 (gA σ 21 (Int32.toNatClampNeg a1)))) + (((f10_look_sd a2) * (Int32.toInt64 (gA σ 23 (Int32.toNatClampNeg a1)))) * (f10_cosine (f10_stepAt σ a1)))) * (Int32.toInt64 (gA σ 28 (Int32.toNatClampNeg a3)))) - ((((20000 : Int64) * (Int32.toInt64 (gA σ 22 (Int32.toNatClampNeg a1)))) + (((f10_look_sd a2) * (Int32.toInt64 (gA σ 23 (Int32.toNatClampNeg a1)))) * (f10_sine (f10_stepAt σ a1)))) * (Int32.toInt64 (gA σ 27 (Int32.toNatClampNeg a3)))))
set_option maxHeartbeats 4000000 in
set_option maxRecDepth 100000 in
theorem bf10_look {X : CX} {Λ : LY} (C : OK X Λ cX10_look 11 RX10 1 22) {σ : St} {res : Int64} (E : EN X Λ (some .long) (some (.long res)) σ) (a1 : Int32) (a2 : Int32) (a3 : Int32) (h1 : vp_in a1 10) (h3 : vp_in a3 24) (hres : (f10_look σ a1 a2 a3) = res) : VV X Λ 11 0 [(0, .ref (adr Λ 37)), (1, .int (a1)), (2, .int (a2)), (3, .int (a3))] [] σ := by
  unfold f10_look at hres
  refine v_aload_n (pc2 := 1) C 0 dX10_look_0 rfl rfl ?_
  refine v_iload_n (pc2 := 2) C 1 dX10_look_1 rfl rfl ?_
  refine v_cVi (pc2 := 5) C kc_X10_144 (mX10_stepAt (xl X) Λ _ _ h1) (wd37 Λ _) rfl (by decide) rfl rfl (Nat.le_of_ble_eq_true rfl) dX10_look_2 rfl ?_
  refine v_istore (pc2 := 7) (lv2 := [(4, _), (0, _), (1, _), (2, _), (3, _)]) C dX10_look_5 (by decide) rfl rfl ?_
  refine v_lv [1, 2, 3, 4, 0] rfl ?_
  refine bf10_look_sd C σ a1 a2 a3 (f10_stepAt σ a1) (out := (f10_look_sd a2)) ?_   rfl
  refine v_lstore (pc2 := 20) (lv2 := [(5, _), (0, _), (1, _), (2, _), (3, _), (4, _)]) C dX10_look_18 (by decide) rfl rfl ?_
  refine v_ldc2 (pc2 := 23) C lc_X10_149 dX10_look_20 rfl ?_
  refine v_aload_n (pc2 := 24) C 1 dX10_look_23 rfl rfl ?_
  refine vg_X10_placeOf (pc2 := 27) C lf_X10_13 dX10_look_24 rfl ?_
  refine v_iload_n (pc2 := 28) C 2 dX10_look_27 rfl rfl ?_
  refine al39 (pc2 := 29) C h1 dX10_look_28 rfl ?_
  refine v_i2l (pc2 := 30) C dX10_look_29 rfl ?_
  refine v_lmul (pc2 := 31) C dX10_look_30 rfl ?_
  refine v_lload (pc2 := 33) C 0 dX10_look_31 rfl rfl ?_
  refine v_aload_n (pc2 := 34) C 1 dX10_look_33 rfl rfl ?_
  refine vg_X10_widthOf (pc2 := 37) C lf_X10_19 dX10_look_34 rfl ?_
  refine v_iload_n (pc2 := 38) C 2 dX10_look_37 rfl rfl ?_
  refine al41 (pc2 := 39) C h1 dX10_look_38 rfl ?_
  refine v_i2l (pc2 := 40) C dX10_look_39 rfl ?_
  refine v_lmul (pc2 := 41) C dX10_look_40 rfl ?_
  refine v_iload (pc2 := 43) C 5 dX10_look_41 rfl rfl ?_
  refine v_cSl (pc2 := 46) C kc_X10_151 (mX10_cosine (xl X) Λ _ _) (by decide) rfl rfl (Nat.le_of_ble_eq_true rfl) dX10_look_43 rfl ?_
  refine v_lmul (pc2 := 47) C dX10_look_46 rfl ?_
  refine v_ladd (pc2 := 48) C dX10_look_47 rfl ?_
  refine v_lstore (pc2 := 50) (lv2 := [(7, _), (5, _), (0, _), (1, _), (2, _), (3, _), (4, _)]) C dX10_look_48 (by decide) rfl rfl ?_
  refine v_ldc2 (pc2 := 53) C lc_X10_149 dX10_look_50 rfl ?_
  refine v_aload_n (pc2 := 54) C 2 dX10_look_53 rfl rfl ?_
  refine vg_X10_heightOf (pc2 := 57) C lf_X10_16 dX10_look_54 rfl ?_
  refine v_iload_n (pc2 := 58) C 3 dX10_look_57 rfl rfl ?_
  refine al40 (pc2 := 59) C h1 dX10_look_58 rfl ?_
  refine v_i2l (pc2 := 60) C dX10_look_59 rfl ?_
  refine v_lmul (pc2 := 61) C dX10_look_60 rfl ?_
  refine v_lload (pc2 := 63) C 1 dX10_look_61 rfl rfl ?_
  refine v_aload_n (pc2 := 64) C 2 dX10_look_63 rfl rfl ?_
  refine vg_X10_widthOf (pc2 := 67) C lf_X10_19 dX10_look_64 rfl ?_
  refine v_iload_n (pc2 := 68) C 3 dX10_look_67 rfl rfl ?_
  refine al41 (pc2 := 69) C h1 dX10_look_68 rfl ?_
  refine v_i2l (pc2 := 70) C dX10_look_69 rfl ?_
  refine v_lmul (pc2 := 71) C dX10_look_70 rfl ?_
  refine v_iload (pc2 := 73) C 6 dX10_look_71 rfl rfl ?_
  refine v_cSl (pc2 := 76) C kc_X10_155 (mX10_sine (xl X) Λ _ _) (by decide) rfl rfl (Nat.le_of_ble_eq_true rfl) dX10_look_73 rfl ?_
  refine v_lmul (pc2 := 77) C dX10_look_76 rfl ?_
  refine v_ladd (pc2 := 78) C dX10_look_77 rfl ?_
  refine v_lstore (pc2 := 80) (lv2 := [(9, _), (7, _), (5, _), (0, _), (1, _), (2, _), (3, _), (4, _)]) C dX10_look_78 (by decide) rfl rfl ?_
  refine v_lload (pc2 := 82) C 1 dX10_look_80 rfl rfl ?_
  refine v_aload_n (pc2 := 83) C 3 dX10_look_82 rfl rfl ?_
  refine vg_X10_sunY (pc2 := 86) C lf_X10_34 dX10_look_83 rfl ?_
  refine v_iload_n (pc2 := 87) C 6 dX10_look_86 rfl rfl ?_
  refine al46 (pc2 := 88) C h3 dX10_look_87 rfl ?_
  refine v_i2l (pc2 := 89) C dX10_look_88 rfl ?_
  refine v_lmul (pc2 := 90) C dX10_look_89 rfl ?_
  refine v_lload (pc2 := 92) C 0 dX10_look_90 rfl rfl ?_
  refine v_aload_n (pc2 := 93) C 3 dX10_look_92 rfl rfl ?_
  refine vg_X10_sunX (pc2 := 96) C lf_X10_31 dX10_look_93 rfl ?_
  refine v_iload_n (pc2 := 97) C 6 dX10_look_96 rfl rfl ?_
  refine al45 (pc2 := 98) C h3 dX10_look_97 rfl ?_
  refine v_i2l (pc2 := 99) C dX10_look_98 rfl ?_
  refine v_lmul (pc2 := 100) C dX10_look_99 rfl ?_
  refine v_lsub (pc2 := 101) C dX10_look_100 rfl ?_
  exact r_lP C E hres dX10_look_101
theorem mX10_look (l : Launch) (Λ : LY) (σ : St) (a1 : Int32) (a2 : Int32) (a3 : Int32) (h1 : vp_in a1 10) (h3 : vp_in a3 24) : CT l Λ yX10_look cX10_look 11 (some .long) 1 22 [.ref (adr Λ 37), .int (a1), .int (a2), .int (a3)] σ (some (.long (f10_look σ a1 a2 a3))) σ := by
  refine CT_of (by decide +kernel) (Nat.le_of_ble_eq_true rfl) ?_
  intro X hX C E
  obtain ⟨res, hres⟩ : ∃ r, (f10_look σ a1 a2 a3) = r := ⟨_, rfl⟩
  rw [hres] at E
  exact bf10_look C E _ _ _  h1 h3 hres
def f10_breadthOf (σ : St) (a1 : Int32) (a2 : Int32) : Int64 :=
  ((f10_look σ a1 (1 : Int32) a2) - (f10_look σ a1 (0 : Int32) a2))
set_option maxHeartbeats 4000000 in
set_option maxRecDepth 100000 in
theorem bf10_breadthOf {X : CX} {Λ : LY} (C : OK X Λ cX10_breadthOf 3 RX10 2 52) {σ : St} {res : Int64} (E : EN X Λ (some .long) (some (.long res)) σ) (a1 : Int32) (a2 : Int32) (h1 : vp_in a1 10) (h3 : vp_in a2 24) (hres : (f10_breadthOf σ a1 a2) = res) : VV X Λ 3 0 [(0, .ref (adr Λ 37)), (1, .int (a1)), (2, .int (a2))] [] σ := by
  unfold f10_breadthOf at hres
  refine v_aload_n (pc2 := 1) C 0 dX10_breadthOf_0 rfl rfl ?_
  refine v_iload_n (pc2 := 2) C 1 dX10_breadthOf_1 rfl rfl ?_
  refine v_iconst (pc2 := 3) C dX10_breadthOf_2 ki_1 rfl ?_
  refine v_iload_n (pc2 := 4) C 2 dX10_breadthOf_3 rfl rfl ?_
  refine v_cVl (pc2 := 7) C kc_X10_158 (mX10_look (xl X) Λ _ _ _ _ h1 h3) (wd37 Λ _) rfl (by decide) rfl rfl (Nat.le_of_ble_eq_true rfl) dX10_breadthOf_4 rfl ?_
  refine v_aload_n (pc2 := 8) C 0 dX10_breadthOf_7 rfl rfl ?_
  refine v_iload_n (pc2 := 9) C 1 dX10_breadthOf_8 rfl rfl ?_
  refine v_iconst (pc2 := 10) C dX10_breadthOf_9 ki_0 rfl ?_
  refine v_iload_n (pc2 := 11) C 2 dX10_breadthOf_10 rfl rfl ?_
  refine v_cVl (pc2 := 14) C kc_X10_158 (mX10_look (xl X) Λ _ _ _ _ h1 h3) (wd37 Λ _) rfl (by decide) rfl rfl (Nat.le_of_ble_eq_true rfl) dX10_breadthOf_11 rfl ?_
  refine v_lsub (pc2 := 15) C dX10_breadthOf_14 rfl ?_
  exact r_lP C E hres dX10_breadthOf_15
theorem mX10_breadthOf (l : Launch) (Λ : LY) (σ : St) (a1 : Int32) (a2 : Int32) (h1 : vp_in a1 10) (h3 : vp_in a2 24) : CT l Λ yX10_breadthOf cX10_breadthOf 3 (some .long) 2 52 [.ref (adr Λ 37), .int (a1), .int (a2)] σ (some (.long (f10_breadthOf σ a1 a2))) σ := by
  refine CT_of (by decide +kernel) (Nat.le_of_ble_eq_true rfl) ?_
  intro X hX C E
  obtain ⟨res, hres⟩ : ∃ r, (f10_breadthOf σ a1 a2) = r := ⟨_, rfl⟩
  rw [hres] at E
  exact bf10_breadthOf C E _ _  h1 h3 hres
def f10_isAhead (σ : St) (a1 : Int32) (a2 : Int32) (a3 : Int32) : Int32 :=
  (if (gA σ 27 (Int32.toNatClampNeg a3)) ≤ (0 : Int32) then (if (0 : Int32) ≤ (gA σ 27 (Int32.toNatClampNeg a3)) then (0 : Int32) else (if a2 ≤ a1 then (0 : Int32) else (1 : Int32))) else (if a1 ≤ a2 then (0 : Int32) else (1 : Int32)))
set_option maxHeartbeats 4000000 in
set_option maxRecDepth 100000 in
theorem bf10_isAhead {X : CX} {Λ : LY} (C : OK X Λ cX10_isAhead 4 RX10 0 0) {σ : St} {res : Int32} (E : EN X Λ (some .boolean) (some (.int res)) σ) (a1 : Int32) (a2 : Int32) (a3 : Int32) (h3 : vp_in a3 24) (hres : (f10_isAhead σ a1 a2 a3) = res) : VV X Λ 4 0 [(0, .ref (adr Λ 37)), (1, .int (a1)), (2, .int (a2)), (3, .int (a3))] [] σ := by
  unfold f10_isAhead at hres
  refine v_aload_n (pc2 := 1) C 0 dX10_isAhead_0 rfl rfl ?_
  refine vg_X10_sunX (pc2 := 4) C lf_X10_31 dX10_isAhead_1 rfl ?_
  refine v_iload_n (pc2 := 5) C 3 dX10_isAhead_4 rfl rfl ?_
  refine al45 (pc2 := 6) C h3 dX10_isAhead_5 rfl ?_
  refine v_ifle (pc2 := 22) (pc3 := 9) C dX10_isAhead_6 rfl rfl (fun h6 => ?_) (fun h6 => ?_)
  · have hres := (if_pos h6).symm.trans hres
    refine v_aload_n (pc2 := 23) C 0 dX10_isAhead_22 rfl rfl ?_
    refine vg_X10_sunX (pc2 := 26) C lf_X10_31 dX10_isAhead_23 rfl ?_
    refine v_iload_n (pc2 := 27) C 3 dX10_isAhead_26 rfl rfl ?_
    refine al45 (pc2 := 28) C h3 dX10_isAhead_27 rfl ?_
    refine v_ifge (pc2 := 40) (pc3 := 31) C dX10_isAhead_28 rfl rfl (fun h28 => ?_) (fun h28 => ?_)
    · have hres := (if_pos h28).symm.trans hres
      refine v_iconst (pc2 := 41) C dX10_isAhead_40 ki_0 rfl ?_
      exact r_zP C E (Or.inl rfl) hres dX10_isAhead_41
    · have hres := (if_neg h28).symm.trans hres
      refine v_iload_n (pc2 := 32) C 1 dX10_isAhead_31 rfl rfl ?_
      refine v_iload_n (pc2 := 33) C 2 dX10_isAhead_32 rfl rfl ?_
      refine v_icmpge (pc2 := 40) (pc3 := 36) C dX10_isAhead_33 rfl rfl (fun h33 => ?_) (fun h33 => ?_)
      · have hres := (if_pos h33).symm.trans hres
        refine v_iconst (pc2 := 41) C dX10_isAhead_40 ki_0 rfl ?_
        exact r_zP C E (Or.inl rfl) hres dX10_isAhead_41
      · have hres := (if_neg h33).symm.trans hres
        refine v_iconst (pc2 := 37) C dX10_isAhead_36 ki_1 rfl ?_
        refine v_goto (pc2 := 41) C dX10_isAhead_37 rfl ?_
        exact r_zP C E (Or.inr rfl) hres dX10_isAhead_41
  · have hres := (if_neg h6).symm.trans hres
    refine v_iload_n (pc2 := 10) C 1 dX10_isAhead_9 rfl rfl ?_
    refine v_iload_n (pc2 := 11) C 2 dX10_isAhead_10 rfl rfl ?_
    refine v_icmple (pc2 := 18) (pc3 := 14) C dX10_isAhead_11 rfl rfl (fun h11 => ?_) (fun h11 => ?_)
    · have hres := (if_pos h11).symm.trans hres
      refine v_iconst (pc2 := 19) C dX10_isAhead_18 ki_0 rfl ?_
      refine v_goto (pc2 := 41) C dX10_isAhead_19 rfl ?_
      exact r_zP C E (Or.inl rfl) hres dX10_isAhead_41
    · have hres := (if_neg h11).symm.trans hres
      refine v_iconst (pc2 := 15) C dX10_isAhead_14 ki_1 rfl ?_
      refine v_goto (pc2 := 41) C dX10_isAhead_15 rfl ?_
      exact r_zP C E (Or.inr rfl) hres dX10_isAhead_41
theorem mX10_isAhead (l : Launch) (Λ : LY) (σ : St) (a1 : Int32) (a2 : Int32) (a3 : Int32) (h3 : vp_in a3 24) : CT l Λ yX10_isAhead cX10_isAhead 4 (some .boolean) 0 0 [.ref (adr Λ 37), .int (a1), .int (a2), .int (a3)] σ (some (.int (f10_isAhead σ a1 a2 a3))) σ := by
  refine CT_of (by decide +kernel) (Nat.le_of_ble_eq_true rfl) ?_
  intro X hX C E
  obtain ⟨res, hres⟩ : ∃ r, (f10_isAhead σ a1 a2 a3) = r := ⟨_, rfl⟩
  rw [hres] at E
  exact bf10_isAhead C E _ _ _  h3 hres
theorem zX10_isAhead (σ : St) (a1 : Int32) (a2 : Int32) (a3 : Int32) : (f10_isAhead σ a1 a2 a3) = 0 ∨ (f10_isAhead σ a1 a2 a3) = 1 := by
  unfold f10_isAhead; repeat' split
  all_goals first | exact Or.inl rfl | exact Or.inr rfl
theorem mi_t {a b c : Int32} (h : ¬ f10_in a b c = 0) : b.toInt ≤ a.toInt ∧ a.toInt ≤ c.toInt := by
  unfold f10_in at h
  split at h
  · exact absurd rfl h
  · rename_i h1
    split at h
    · exact absurd rfl h
    · rename_i h2
      have := t_nlt h1 rfl rfl
      have := t_nlt h2 rfl rfl
      omega
theorem mHour_in {a : Int32} (h : ¬ f10_isHour a = 0) : vp_in a 24 := by
  have h2 := mi_t h
  rw [lit_0, lit_23] at h2
  exact vin (by omega) (by omega)
theorem mString_in {a : Int32} (h : ¬ f10_isString a = 0) : vp_in a 4 := by
  have h2 := mi_t h
  rw [lit_0, lit_3] at h2
  exact vin (by omega) (by omega)
theorem mRow_in {σ : St} {a : Int32} (hs : Safe σ) (h : ¬ f10_isRow σ a = 0) : vp_in a 10 := by
  have h2 := mi_t h
  have h3 := hs.mrw
  rw [lit_0, i_sub (by rw [lit_1]; omega) (by rw [lit_1]; omega), lit_1] at h2
  exact vin (by omega) (by omega)
theorem mSun_in {a b c : Int32} (h : ¬ f10_isSun a b c = 0) : vp_in a 24 := by
  unfold f10_isSun at h
  split at h
  · exact absurd rfl h
  · rename_i h1; exact mHour_in h1
theorem mi5_in {a : Int32} (h : ¬ f10_in a (0 : Int32) (5 : Int32) = 0) : vp_in a 6 := by
  have h2 := mi_t h
  rw [lit_0, lit_5] at h2
  exact vin (by omega) (by omega)
theorem mi7_in {a : Int32} (h : ¬ f10_in a (0 : Int32) (7 : Int32) = 0) : vp_in a 8 := by
  have h2 := mi_t h
  rw [lit_0, lit_7] at h2
  exact vin (by omega) (by omega)
theorem in8 {a : Int32} (h : vp_in a 6) : vp_in a 8 := by
  have := vp_in_iff.mp h
  exact vin (by omega) (by omega)
theorem found_inM {a : Int32} (h : ¬ f10_in a (-1000000005 : Int32) (-1000000001 : Int32) = 0) : vp_in ((-1000000000 : Int32) - a) 6 := by
  have h2 := mi_t h
  rw [lit_m1000000005, lit_m1000000001] at h2
  have h3 : ((-1000000000 : Int32) - a).toInt = -1000000000 - a.toInt := by rw [i_sub (by rw [lit_m1000000000]; omega) (by rw [lit_m1000000000]; omega), lit_m1000000000]
  exact vin (by omega) (by omega)
theorem sX10_finding {σ : St} {a : Int32} (h : Safe σ) : Safe (f10_finding σ a).2 := sf_A (by decide) h
theorem sX10_setSun {σ : St} {a b c : Int32} (h : Safe σ) : Safe (f10_setSun σ a b c) := sf_A (by decide) (sf_A (by decide) h)
theorem l_le {a b : Int64} : a ≤ b ↔ a.toInt ≤ b.toInt := Int64.le_iff_toInt_le
theorem l_lt {a b : Int64} : a < b ↔ a.toInt < b.toInt := Int64.lt_iff_toInt_lt
def f10_shaded_lo (one : Int64) (two : Int64) : Int64 :=
  (if two ≤ one then two else one)
set_option maxHeartbeats 4000000 in
set_option maxRecDepth 100000 in
theorem bf10_shaded_lo {X : CX} {Λ : LY} (C : OK X Λ cX10_shaded 24 RX10 2 52) (σ : St) {out : Int64} (a1 : Int32) (a2 : Int32) (to : Int64) (su : Int64) (pt : Int64) (fr : Int64) (nx : Int64) (k : Int32) (one : Int64) (two : Int64) (kk : VV X Λ 24 91 [(0, .ref (adr Λ 37)), (1, .int (a1)), (2, .int (a2)), (5, .long (to)), (7, .long (su)), (9, .long (pt)), (11, .long (fr)), (13, .long (nx)), (15, .int (k)), (16, .long (one)), (18, .long (two))] [.long (out)] (σ))  (hres : (f10_shaded_lo one two) = out) : VV X Λ 24 76 [(0, .ref (adr Λ 37)), (1, .int (a1)), (2, .int (a2)), (5, .long (to)), (7, .long (su)), (9, .long (pt)), (11, .long (fr)), (13, .long (nx)), (15, .int (k)), (16, .long (one)), (18, .long (two))] [] σ := by
  unfold f10_shaded_lo at hres
  refine v_lload (pc2 := 78) C 9 dX10_shaded_76 rfl rfl ?_
  refine v_lload (pc2 := 80) C 10 dX10_shaded_78 rfl rfl ?_
  refine v_lcge (pc2 := 89) (pc3 := 84) C dX10_shaded_80 dX10_shaded_81 rfl rfl (fun h80 => ?_) (fun h80 => ?_)
  · have hres := (if_pos h80).symm.trans hres
    refine v_lload (pc2 := 91) C 10 dX10_shaded_89 rfl rfl ?_
    subst hres
    exact v_lv [0, 1, 2, 3, 4, 5, 6, 7, 8, 9, 10] rfl kk
  · have hres := (if_neg h80).symm.trans hres
    refine v_lload (pc2 := 86) C 9 dX10_shaded_84 rfl rfl ?_
    refine v_goto (pc2 := 91) C dX10_shaded_86 rfl ?_
    subst hres
    exact v_lv [0, 1, 2, 3, 4, 5, 6, 7, 8, 9, 10] rfl kk
def f10_shaded_hi (one : Int64) (two : Int64) : Int64 :=
  (if two ≤ one then one else two)
set_option maxHeartbeats 4000000 in
set_option maxRecDepth 100000 in
theorem bf10_shaded_hi {X : CX} {Λ : LY} (C : OK X Λ cX10_shaded 24 RX10 2 52) (σ : St) {out : Int64} (a1 : Int32) (a2 : Int32) (to : Int64) (su : Int64) (pt : Int64) (fr : Int64) (nx : Int64) (k : Int32) (one : Int64) (two : Int64) (lw : Int64) (kk : VV X Λ 24 108 [(0, .ref (adr Λ 37)), (1, .int (a1)), (2, .int (a2)), (5, .long (to)), (7, .long (su)), (9, .long (pt)), (11, .long (fr)), (13, .long (nx)), (15, .int (k)), (16, .long (one)), (18, .long (two)), (20, .long (lw))] [.long (out)] (σ))  (hres : (f10_shaded_hi one two) = out) : VV X Λ 24 93 [(0, .ref (adr Λ 37)), (1, .int (a1)), (2, .int (a2)), (5, .long (to)), (7, .long (su)), (9, .long (pt)), (11, .long (fr)), (13, .long (nx)), (15, .int (k)), (16, .long (one)), (18, .long (two)), (20, .long (lw))] [] σ := by
  unfold f10_shaded_hi at hres
  refine v_lload (pc2 := 95) C 9 dX10_shaded_93 rfl rfl ?_
  refine v_lload (pc2 := 97) C 10 dX10_shaded_95 rfl rfl ?_
  refine v_lcge (pc2 := 106) (pc3 := 101) C dX10_shaded_97 dX10_shaded_98 rfl rfl (fun h97 => ?_) (fun h97 => ?_)
  · have hres := (if_pos h97).symm.trans hres
    refine v_lload (pc2 := 108) C 9 dX10_shaded_106 rfl rfl ?_
    subst hres
    exact v_lv [0, 1, 2, 3, 4, 5, 6, 7, 8, 9, 10, 11] rfl kk
  · have hres := (if_neg h97).symm.trans hres
    refine v_lload (pc2 := 103) C 10 dX10_shaded_101 rfl rfl ?_
    refine v_goto (pc2 := 108) C dX10_shaded_103 rfl ?_
    subst hres
    exact v_lv [0, 1, 2, 3, 4, 5, 6, 7, 8, 9, 10, 11] rfl kk
def f10_shaded_fa (pt : Int64) (lw : Int64) (hg : Int64) (fr : Int64) : Int64 :=
  (if pt < lw then fr else (if hg ≤ fr then fr else hg))
set_option maxHeartbeats 4000000 in
set_option maxRecDepth 100000 in
theorem bf10_shaded_fa {X : CX} {Λ : LY} (C : OK X Λ cX10_shaded 24 RX10 2 52) (σ : St) {out : Int64} (a1 : Int32) (a2 : Int32) (to : Int64) (su : Int64) (pt : Int64) (nx : Int64) (k : Int32) (lw : Int64) (hg : Int64) (kk : VV X Λ 24 130 [(0, .ref (adr Λ 37)), (1, .int (a1)), (2, .int (a2)), (5, .long (to)), (7, .long (su)), (9, .long (pt)), (11, .long (out)), (13, .long (nx)), (15, .int (k)), (20, .long (lw)), (22, .long (hg))] [] (σ)) (fr : Int64)  (hres : (f10_shaded_fa pt lw hg fr) = out) : VV X Λ 24 110 [(0, .ref (adr Λ 37)), (1, .int (a1)), (2, .int (a2)), (5, .long (to)), (7, .long (su)), (9, .long (pt)), (11, .long (fr)), (13, .long (nx)), (15, .int (k)), (20, .long (lw)), (22, .long (hg))] [] σ := by
  unfold f10_shaded_fa at hres
  refine v_lload (pc2 := 112) C 9 dX10_shaded_110 rfl rfl ?_
  refine v_lload (pc2 := 114) C 5 dX10_shaded_112 rfl rfl ?_
  refine v_lcgt (pc2 := 130) (pc3 := 118) C dX10_shaded_114 dX10_shaded_115 rfl rfl (fun h114 => ?_) (fun h114 => ?_)
  · have hres := (if_pos h114).symm.trans hres
    subst hres
    exact v_lv [0, 1, 2, 3, 4, 5, 6, 7, 8, 9, 10] rfl kk
  · have hres := (if_neg h114).symm.trans hres
    refine v_lload (pc2 := 120) C 10 dX10_shaded_118 rfl rfl ?_
    refine v_lload (pc2 := 122) C 6 dX10_shaded_120 rfl rfl ?_
    refine v_lcle (pc2 := 130) (pc3 := 126) C dX10_shaded_122 dX10_shaded_123 rfl rfl (fun h122 => ?_) (fun h122 => ?_)
    · have hres := (if_pos h122).symm.trans hres
      subst hres
      exact v_lv [0, 1, 2, 3, 4, 5, 6, 7, 8, 9, 10] rfl kk
    · have hres := (if_neg h122).symm.trans hres
      refine v_lload (pc2 := 128) C 10 dX10_shaded_126 rfl rfl ?_
      refine v_lstore (pc2 := 130) (lv2 := [(11, _), (0, _), (1, _), (2, _), (5, _), (7, _), (9, _), (13, _), (15, _), (20, _), (22, _)]) C dX10_shaded_128 (by decide) rfl rfl ?_
      subst hres
      exact v_lv [1, 2, 3, 4, 5, 6, 0, 7, 8, 9, 10] rfl kk
def f10_shaded_nx (pt : Int64) (lw : Int64) (hg : Int64) (nx : Int64) : Int64 :=
  (if lw ≤ pt then nx else (if nx ≤ lw then nx else (if hg ≤ lw then nx else lw)))
set_option maxHeartbeats 4000000 in
set_option maxRecDepth 100000 in
theorem bf10_shaded_nx {X : CX} {Λ : LY} (C : OK X Λ cX10_shaded 24 RX10 2 52) (σ : St) {out : Int64} (a1 : Int32) (a2 : Int32) (to : Int64) (su : Int64) (pt : Int64) (fr : Int64) (k : Int32) (lw : Int64) (hg : Int64) (kk : VV X Λ 24 158 [(0, .ref (adr Λ 37)), (1, .int (a1)), (2, .int (a2)), (5, .long (to)), (7, .long (su)), (9, .long (pt)), (11, .long (fr)), (13, .long (out)), (15, .int (k))] [] (σ)) (nx : Int64)  (hres : (f10_shaded_nx pt lw hg nx) = out) : VV X Λ 24 130 [(0, .ref (adr Λ 37)), (1, .int (a1)), (2, .int (a2)), (5, .long (to)), (7, .long (su)), (9, .long (pt)), (11, .long (fr)), (13, .long (nx)), (15, .int (k)), (20, .long (lw)), (22, .long (hg))] [] σ := by
  unfold f10_shaded_nx at hres
  refine v_lload (pc2 := 132) C 9 dX10_shaded_130 rfl rfl ?_
  refine v_lload (pc2 := 134) C 5 dX10_shaded_132 rfl rfl ?_
  refine v_lcle (pc2 := 158) (pc3 := 138) C dX10_shaded_134 dX10_shaded_135 rfl rfl (fun h134 => ?_) (fun h134 => ?_)
  · have hres := (if_pos h134).symm.trans hres
    subst hres
    exact v_lv [0, 1, 2, 3, 4, 5, 6, 7, 8] rfl kk
  · have hres := (if_neg h134).symm.trans hres
    refine v_lload (pc2 := 140) C 9 dX10_shaded_138 rfl rfl ?_
    refine v_lload (pc2 := 142) C 7 dX10_shaded_140 rfl rfl ?_
    refine v_lcge (pc2 := 158) (pc3 := 146) C dX10_shaded_142 dX10_shaded_143 rfl rfl (fun h142 => ?_) (fun h142 => ?_)
    · have hres := (if_pos h142).symm.trans hres
      subst hres
      exact v_lv [0, 1, 2, 3, 4, 5, 6, 7, 8] rfl kk
    · have hres := (if_neg h142).symm.trans hres
      refine v_lload (pc2 := 148) C 9 dX10_shaded_146 rfl rfl ?_
      refine v_lload (pc2 := 150) C 10 dX10_shaded_148 rfl rfl ?_
      refine v_lcge (pc2 := 158) (pc3 := 154) C dX10_shaded_150 dX10_shaded_151 rfl rfl (fun h150 => ?_) (fun h150 => ?_)
      · have hres := (if_pos h150).symm.trans hres
        subst hres
        exact v_lv [0, 1, 2, 3, 4, 5, 6, 7, 8] rfl kk
      · have hres := (if_neg h150).symm.trans hres
        refine v_lload (pc2 := 156) C 9 dX10_shaded_154 rfl rfl ?_
        refine v_lstore (pc2 := 158) (lv2 := [(13, _), (0, _), (1, _), (2, _), (5, _), (7, _), (9, _), (11, _), (15, _), (20, _), (22, _)]) C dX10_shaded_156 (by decide) rfl rfl ?_
        subst hres
        exact v_lv [1, 2, 3, 4, 5, 6, 7, 0, 8] rfl kk
def f10_shaded_I (σ : St) (a1 : Int32) (a2 : Int32) (pt : Int64) : Nat → Int64 → Int64 → Int32 → Int64 × Int64
  | 0, fr, nx, _ => (fr, nx)
  | n + 1, fr, nx, k => (if (gI σ 20) ≤ k then (fr, nx) else (if (f10_isAhead σ k a1 a2) = (0 : Int32) then (f10_shaded_I σ a1 a2 pt n fr nx (k + (1 : Int32))) else (f10_shaded_I σ a1 a2 pt n (f10_shaded_fa pt (f10_shaded_lo ((3 : Int64) * (f10_look σ k (0 : Int32) a2)) ((3 : Int64) * (f10_look σ k (1 : Int32) a2))) (f10_shaded_hi ((3 : Int64) * (f10_look σ k (0 : Int32) a2)) ((3 : Int64) * (f10_look σ k (1 : Int32) a2))) fr) (f10_shaded_nx pt (f10_shaded_lo ((3 : Int64) * (f10_look σ k (0 : Int32) a2)) ((3 : Int64) * (f10_look σ k (1 : Int32) a2))) (f10_shaded_hi ((3 : Int64) * (f10_look σ k (0 : Int32) a2)) ((3 : Int64) * (f10_look σ k (1 : Int32) a2))) nx) (k + (1 : Int32)))))
set_option maxHeartbeats 4000000 in
set_option maxRecDepth 100000 in
theorem bf10_shaded_I {X : CX} {Λ : LY} (C : OK X Λ cX10_shaded 24 RX10 2 52) (σ : St) {out : Int64 × Int64} (a1 : Int32) (a2 : Int32) (to : Int64) (su : Int64) (pt : Int64) (kk : VV X Λ 24 164 [(0, .ref (adr Λ 37)), (1, .int (a1)), (2, .int (a2)), (5, .long (to)), (7, .long (su)), (9, .long (pt)), (11, .long ((out).1)), (13, .long ((out).2))] [] (σ)) : ∀ (n : Nat) (fr : Int64) (nx : Int64) (k : Int32), (hs : Safe σ) → (h3 : vp_in a2 24) → (hu : UP 10 k n) → (f10_shaded_I σ a1 a2 pt n fr nx k) = out → VV X Λ 24 25 [(0, .ref (adr Λ 37)), (1, .int (a1)), (2, .int (a2)), (5, .long (to)), (7, .long (su)), (9, .long (pt)), (11, .long (fr)), (13, .long (nx)), (15, .int (k))] [] σ := by
  intro n
  induction n with
  | zero => intro fr nx k hs h3 hu hres; exact absurd hu (fun h => h.z)
  | succ n ih =>
    intro fr nx k hs h3 hu hres
    rw [f10_shaded_I] at hres
    refine v_iload (pc2 := 27) C 8 dX10_shaded_25 rfl rfl ?_
    refine v_aload_n (pc2 := 28) C 0 dX10_shaded_27 rfl rfl ?_
    refine vg_X10_rows (pc2 := 31) C lf_X10_72 dX10_shaded_28 rfl ?_
    refine v_icmpge (pc2 := 164) (pc3 := 34) C dX10_shaded_31 rfl rfl (fun h31 => ?_) (fun h31 => ?_)
    · have hres := (if_pos h31).symm.trans hres
      subst hres
      exact v_lv [0, 1, 2, 3, 4, 5, 6, 7] rfl kk
    · have hres := (if_neg h31).symm.trans hres
      refine v_aload_n (pc2 := 35) C 0 dX10_shaded_34 rfl rfl ?_
      refine v_iload (pc2 := 37) C 8 dX10_shaded_35 rfl rfl ?_
      refine v_iload_n (pc2 := 38) C 1 dX10_shaded_37 rfl rfl ?_
      refine v_iload_n (pc2 := 39) C 2 dX10_shaded_38 rfl rfl ?_
      refine v_cVi (pc2 := 42) C kc_X10_162 (mX10_isAhead (xl X) Λ _ _ _ _ h3) (wd37 Λ _) rfl (by decide) rfl rfl (Nat.le_of_ble_eq_true rfl) dX10_shaded_39 rfl ?_
      refine v_ifne (pc2 := 48) (pc3 := 45) C dX10_shaded_42 rfl rfl (fun h42 => ?_) (fun h42 => ?_)
      · have hres := (if_neg h42).symm.trans hres
        refine v_ldc2 (pc2 := 51) C lc_X10_165 dX10_shaded_48 rfl ?_
        refine v_aload_n (pc2 := 52) C 0 dX10_shaded_51 rfl rfl ?_
        refine v_iload (pc2 := 54) C 8 dX10_shaded_52 rfl rfl ?_
        refine v_iconst (pc2 := 55) C dX10_shaded_54 ki_0 rfl ?_
        refine v_iload_n (pc2 := 56) C 2 dX10_shaded_55 rfl rfl ?_
        refine v_cVl (pc2 := 59) C kc_X10_158 (mX10_look (xl X) Λ _ _ _ _ (hu.in h31 hs.mrw.2) h3) (wd37 Λ _) rfl (by decide) rfl rfl (Nat.le_of_ble_eq_true rfl) dX10_shaded_56 rfl ?_
        refine v_lmul (pc2 := 60) C dX10_shaded_59 rfl ?_
        refine v_lstore (pc2 := 62) (lv2 := [(16, _), (0, _), (1, _), (2, _), (5, _), (7, _), (9, _), (11, _), (13, _), (15, _)]) C dX10_shaded_60 (by decide) rfl rfl ?_
        refine v_ldc2 (pc2 := 65) C lc_X10_165 dX10_shaded_62 rfl ?_
        refine v_aload_n (pc2 := 66) C 1 dX10_shaded_65 rfl rfl ?_
        refine v_iload (pc2 := 68) C 9 dX10_shaded_66 rfl rfl ?_
        refine v_iconst (pc2 := 69) C dX10_shaded_68 ki_1 rfl ?_
        refine v_iload_n (pc2 := 70) C 3 dX10_shaded_69 rfl rfl ?_
        refine v_cVl (pc2 := 73) C kc_X10_158 (mX10_look (xl X) Λ _ _ _ _ (hu.in h31 hs.mrw.2) h3) (wd37 Λ _) rfl (by decide) rfl rfl (Nat.le_of_ble_eq_true rfl) dX10_shaded_70 rfl ?_
        refine v_lmul (pc2 := 74) C dX10_shaded_73 rfl ?_
        refine v_lstore (pc2 := 76) (lv2 := [(18, _), (16, _), (0, _), (1, _), (2, _), (5, _), (7, _), (9, _), (11, _), (13, _), (15, _)]) C dX10_shaded_74 (by decide) rfl rfl ?_
        refine v_lv [2, 3, 4, 5, 6, 7, 8, 9, 10, 1, 0] rfl ?_
        refine bf10_shaded_lo C σ a1 a2 to su pt fr nx k ((3 : Int64) * (f10_look σ k (0 : Int32) a2)) ((3 : Int64) * (f10_look σ k (1 : Int32) a2)) (out := (f10_shaded_lo ((3 : Int64) * (f10_look σ k (0 : Int32) a2)) ((3 : Int64) * (f10_look σ k (1 : Int32) a2)))) ?_   rfl
        refine v_lstore (pc2 := 93) (lv2 := [(20, _), (0, _), (1, _), (2, _), (5, _), (7, _), (9, _), (11, _), (13, _), (15, _), (16, _), (18, _)]) C dX10_shaded_91 (by decide) rfl rfl ?_
        refine v_lv [1, 2, 3, 4, 5, 6, 7, 8, 9, 10, 11, 0] rfl ?_
        refine bf10_shaded_hi C σ a1 a2 to su pt fr nx k ((3 : Int64) * (f10_look σ k (0 : Int32) a2)) ((3 : Int64) * (f10_look σ k (1 : Int32) a2)) (f10_shaded_lo ((3 : Int64) * (f10_look σ k (0 : Int32) a2)) ((3 : Int64) * (f10_look σ k (1 : Int32) a2))) (out := (f10_shaded_hi ((3 : Int64) * (f10_look σ k (0 : Int32) a2)) ((3 : Int64) * (f10_look σ k (1 : Int32) a2)))) ?_   rfl
        refine v_lstore (pc2 := 110) (lv2 := [(22, _), (0, _), (1, _), (2, _), (5, _), (7, _), (9, _), (11, _), (13, _), (15, _), (16, _), (18, _), (20, _)]) C dX10_shaded_108 (by decide) rfl rfl ?_
        refine v_lv [1, 2, 3, 4, 5, 6, 7, 8, 9, 12, 0] rfl ?_
        refine bf10_shaded_fa C σ a1 a2 to su pt nx k (f10_shaded_lo ((3 : Int64) * (f10_look σ k (0 : Int32) a2)) ((3 : Int64) * (f10_look σ k (1 : Int32) a2))) (f10_shaded_hi ((3 : Int64) * (f10_look σ k (0 : Int32) a2)) ((3 : Int64) * (f10_look σ k (1 : Int32) a2))) (out := (f10_shaded_fa pt (f10_shaded_lo ((3 : Int64) * (f10_look σ k (0 : Int32) a2)) ((3 : Int64) * (f10_look σ k (1 : Int32) a2))) (f10_shaded_hi ((3 : Int64) * (f10_look σ k (0 : Int32) a2)) ((3 : Int64) * (f10_look σ k (1 : Int32) a2))) fr)) ?_ fr  rfl
        refine v_lv [0, 1, 2, 3, 4, 5, 6, 7, 8, 9, 10] rfl ?_
        refine bf10_shaded_nx C σ a1 a2 to su pt (f10_shaded_fa pt (f10_shaded_lo ((3 : Int64) * (f10_look σ k (0 : Int32) a2)) ((3 : Int64) * (f10_look σ k (1 : Int32) a2))) (f10_shaded_hi ((3 : Int64) * (f10_look σ k (0 : Int32) a2)) ((3 : Int64) * (f10_look σ k (1 : Int32) a2))) fr) k (f10_shaded_lo ((3 : Int64) * (f10_look σ k (0 : Int32) a2)) ((3 : Int64) * (f10_look σ k (1 : Int32) a2))) (f10_shaded_hi ((3 : Int64) * (f10_look σ k (0 : Int32) a2)) ((3 : Int64) * (f10_look σ k (1 : Int32) a2))) (out := (f10_shaded_nx pt (f10_shaded_lo ((3 : Int64) * (f10_look σ k (0 : Int32) a2)) ((3 : Int64) * (f10_look σ k (1 : Int32) a2))) (f10_shaded_hi ((3 : Int64) * (f10_look σ k (0 : Int32) a2)) ((3 : Int64) * (f10_look σ k (1 : Int32) a2))) nx)) ?_ nx  rfl
        refine v_iinc (pc2 := 161) (lv2 := [(15, _), (0, _), (1, _), (2, _), (5, _), (7, _), (9, _), (11, _), (13, _)]) C 8 dX10_shaded_158 rfl ki_1 (by decide) rfl rfl ?_
        refine v_goto (pc2 := 25) C dX10_shaded_161 rfl ?_
        exact v_lv [1, 2, 3, 4, 5, 6, 7, 8, 0] rfl (ih _ _ _ hs h3 (hu.step h31 hs.mrw.2 (by decide)) hres)
      · have hres := (if_pos h42).symm.trans hres
        refine v_goto (pc2 := 158) C dX10_shaded_45 rfl ?_
        refine v_iinc (pc2 := 161) (lv2 := [(15, _), (0, _), (1, _), (2, _), (5, _), (7, _), (9, _), (11, _), (13, _)]) C 8 dX10_shaded_158 rfl ki_1 (by decide) rfl rfl ?_
        refine v_goto (pc2 := 25) C dX10_shaded_161 rfl ?_
        exact v_lv [1, 2, 3, 4, 5, 6, 7, 8, 0] rfl (ih _ _ _ hs h3 (hu.step h31 hs.mrw.2 (by decide)) hres)
def f10_shaded_en (to : Int64) (fr : Int64) : Int64 :=
  (if to ≤ fr then to else fr)
set_option maxHeartbeats 4000000 in
set_option maxRecDepth 100000 in
theorem bf10_shaded_en {X : CX} {Λ : LY} (C : OK X Λ cX10_shaded 24 RX10 2 52) (σ : St) {out : Int64} (a1 : Int32) (a2 : Int32) (to : Int64) (su : Int64) (pt : Int64) (fr : Int64) (nx : Int64) (kk : VV X Λ 24 187 [(0, .ref (adr Λ 37)), (1, .int (a1)), (2, .int (a2)), (5, .long (to)), (7, .long (su)), (9, .long (pt))] [.long (out)] (σ))  (hres : (f10_shaded_en to fr) = out) : VV X Λ 24 172 [(0, .ref (adr Λ 37)), (1, .int (a1)), (2, .int (a2)), (5, .long (to)), (7, .long (su)), (9, .long (pt)), (11, .long (fr)), (13, .long (nx))] [] σ := by
  unfold f10_shaded_en at hres
  refine v_lload (pc2 := 174) C 6 dX10_shaded_172 rfl rfl ?_
  refine v_lload (pc2 := 176) C 3 dX10_shaded_174 rfl rfl ?_
  refine v_lcge (pc2 := 185) (pc3 := 180) C dX10_shaded_176 dX10_shaded_177 rfl rfl (fun h176 => ?_) (fun h176 => ?_)
  · have hres := (if_pos h176).symm.trans hres
    refine v_lload (pc2 := 187) C 3 dX10_shaded_185 rfl rfl ?_
    subst hres
    exact v_lv [0, 1, 2, 3, 4, 5] rfl kk
  · have hres := (if_neg h176).symm.trans hres
    refine v_lload (pc2 := 182) C 6 dX10_shaded_180 rfl rfl ?_
    refine v_goto (pc2 := 187) C dX10_shaded_182 rfl ?_
    subst hres
    exact v_lv [0, 1, 2, 3, 4, 5] rfl kk
/-- the ends of the rows ahead that lie beyond a place -/
def hiM (σ : St) (h : Int32) (i : Nat) : Int64 := f10_shaded_hi ((3 : Int64) * f10_look σ (nI i) (0 : Int32) h) ((3 : Int64) * f10_look σ (nI i) (1 : Int32) h)
def loM (σ : St) (h : Int32) (i : Nat) : Int64 := f10_shaded_lo ((3 : Int64) * f10_look σ (nI i) (0 : Int32) h) ((3 : Int64) * f10_look σ (nI i) (1 : Int32) h)
def aheadM (σ : St) (r h : Int32) (i : Nat) : Prop := ¬ f10_isAhead σ (nI i) r h = 0
def ctM (σ : St) (r h : Int32) (t : Int64) : Nat → Nat
  | 0 => 0
  | m + 1 => ctM σ r h t m + ((if f10_isAhead σ (nI m) r h = 0 then 0 else if t < loM σ h m then 1 else 0) + (if f10_isAhead σ (nI m) r h = 0 then 0 else if t < hiM σ h m then 1 else 0))
theorem ctM_le (σ : St) (r h : Int32) (t : Int64) : ∀ m, ctM σ r h t m ≤ 2 * m
  | 0 => Nat.le_refl _
  | m + 1 => by
    have ih := ctM_le σ r h t m
    rw [ctM]
    have h1 : (if f10_isAhead σ (nI m) r h = 0 then 0 else if t < loM σ h m then 1 else 0) ≤ 1 := by repeat' (first | omega | split)
    have h2 : (if f10_isAhead σ (nI m) r h = 0 then 0 else if t < hiM σ h m then 1 else 0) ≤ 1 := by repeat' (first | omega | split)
    omega
theorem mono1 {c : Prop} [Decidable c] {t u x : Int64} (h : t ≤ u) : (if c then 0 else if u < x then 1 else 0) ≤ (if c then 0 else if t < x then 1 else (0 : Nat)) := by
  rw [l_le] at h
  simp only [l_lt]
  repeat' split
  all_goals omega
theorem ctM_mono {σ : St} {r h : Int32} {t u : Int64} (htu : t ≤ u) : ∀ m, ctM σ r h u m ≤ ctM σ r h t m
  | 0 => Nat.le_refl _
  | m + 1 => by
    have ih := ctM_mono (σ := σ) (r := r) (h := h) htu m
    rw [ctM, ctM]
    have h1 := mono1 (c := f10_isAhead σ (nI m) r h = 0) (x := loM σ h m) htu
    have h2 := mono1 (c := f10_isAhead σ (nI m) r h = 0) (x := hiM σ h m) htu
    omega
theorem ctM_lt {σ : St} {r h : Int32} {t u : Int64} (htu : t < u) {i : Nat} (ha : aheadM σ r h i) (hu : u = loM σ h i ∨ u = hiM σ h i) : ∀ m, i < m → ctM σ r h u m < ctM σ r h t m
  | 0, hi => absurd hi (Nat.not_lt_zero _)
  | m + 1, hi => by
    have htu2 : t ≤ u := by rw [l_lt] at htu; rw [l_le]; omega
    rw [ctM, ctM]
    have h1 := mono1 (c := f10_isAhead σ (nI m) r h = 0) (x := loM σ h m) htu2
    have h2 := mono1 (c := f10_isAhead σ (nI m) r h = 0) (x := hiM σ h m) htu2
    rcases Nat.lt_or_ge i m with q | q
    · have := ctM_lt htu ha hu m q
      omega
    · have e : i = m := by omega
      subst e
      have h3 := ctM_mono (σ := σ) (r := r) (h := h) htu2 i
      have n1 : ¬ u < u := by rw [l_lt]; omega
      unfold aheadM at ha
      rcases hu with hu | hu
      · have e1 : (if f10_isAhead σ (nI i) r h = 0 then 0 else if u < loM σ h i then 1 else 0) = 0 := by rw [if_neg ha, ← hu, if_neg n1]
        have e2 : (if f10_isAhead σ (nI i) r h = 0 then 0 else if t < loM σ h i then 1 else 0) = 1 := by rw [if_neg ha, ← hu, if_pos htu]
        omega
      · have e1 : (if f10_isAhead σ (nI i) r h = 0 then 0 else if u < hiM σ h i then 1 else 0) = 0 := by rw [if_neg ha, ← hu, if_neg n1]
        have e2 : (if f10_isAhead σ (nI i) r h = 0 then 0 else if t < hiM σ h i then 1 else 0) = 1 := by rw [if_neg ha, ← hu, if_pos htu]
        omega
def mu (σ : St) (r h : Int32) (to at_ : Int64) : Nat := if to ≤ at_ then 0 else 1 + ctM σ r h at_ 10
theorem mu_lt (σ : St) (r h : Int32) (to at_ : Int64) : mu σ r h to at_ < 22 := by
  have := ctM_le σ r h at_ 10
  unfold mu
  split <;> omega
theorem shI_prop {σ : St} (hs : Safe σ) {r h : Int32} {at_ : Int64} : ∀ (n : Nat) (fr nx : Int64) (k : Int32), 0 ≤ k.toInt →
    ((f10_shaded_I σ r h at_ n fr nx k).1 = fr ∨ ∃ i : Nat, i < 10 ∧ aheadM σ r h i ∧ (f10_shaded_I σ r h at_ n fr nx k).1 = hiM σ h i) ∧
    ((f10_shaded_I σ r h at_ n fr nx k).2 = nx ∨ ∃ i : Nat, i < 10 ∧ aheadM σ r h i ∧ (f10_shaded_I σ r h at_ n fr nx k).2 = loM σ h i ∧ at_ < loM σ h i) := by
  intro n
  induction n with
  | zero => intro fr nx k hk; exact ⟨Or.inl rfl, Or.inl rfl⟩
  | succ n ih =>
    intro fr nx k hk
    rw [f10_shaded_I]
    by_cases h1 : gI σ 20 ≤ k
    · rw [if_pos h1]; exact ⟨Or.inl rfl, Or.inl rfl⟩
    · rw [if_neg h1]
      have t1 := t_nle h1 rfl rfl
      have t2 := hs.mrw
      have t3 := i_add1 (x := k) (b := 10) (by omega) (by omega)
      obtain ⟨i, hi, rfl⟩ := vp_in_of (vin hk (by omega : k.toInt < (10 : Nat))) (by decide)
      by_cases h2 : f10_isAhead σ (nI i) r h = 0
      · rw [if_pos h2]; exact ih _ _ _ (by omega)
      · rw [if_neg h2]
        obtain ⟨q1, q2⟩ := ih (f10_shaded_fa at_ (loM σ h i) (hiM σ h i) fr) (f10_shaded_nx at_ (loM σ h i) (hiM σ h i) nx) (nI i + (1 : Int32)) (by omega)
        refine ⟨?_, ?_⟩
        · rcases q1 with q | q
          · have e : f10_shaded_fa at_ (loM σ h i) (hiM σ h i) fr = fr ∨ f10_shaded_fa at_ (loM σ h i) (hiM σ h i) fr = hiM σ h i := by
              unfold f10_shaded_fa
              repeat' split
              all_goals first | exact Or.inl rfl | exact Or.inr rfl
            rcases e with e | e
            · exact Or.inl (q.trans e)
            · exact Or.inr ⟨i, hi, h2, q.trans e⟩
          · exact Or.inr q
        · rcases q2 with q | q
          · have e : f10_shaded_nx at_ (loM σ h i) (hiM σ h i) nx = nx ∨ (f10_shaded_nx at_ (loM σ h i) (hiM σ h i) nx = loM σ h i ∧ at_ < loM σ h i) := by
              unfold f10_shaded_nx
              repeat' split
              all_goals first | exact Or.inl rfl | skip
              rename_i g1 g2 g3
              refine Or.inr ⟨rfl, ?_⟩
              rw [l_le] at g1; rw [l_lt]; omega
            rcases e with e | e
            · exact Or.inl (q.trans e)
            · exact Or.inr ⟨i, hi, h2, q.trans e.1, e.2⟩
          · exact Or.inr q
theorem mu_b {σ : St} {r h : Int32} {to at_ : Int64} {n : Nat} (hs : Safe σ) (hm : mu σ r h to at_ < n + 1) (h1 : ¬ to ≤ at_) : mu σ r h to (f10_shaded_I σ r h at_ 11 at_ to (0 : Int32)).2 < n := by
  obtain ⟨-, q⟩ := shI_prop hs (r := r) (h := h) (at_ := at_) 11 at_ to (0 : Int32) (by rw [lit_0]; decide)
  rw [mu, if_neg h1] at hm
  rw [mu]
  split
  · omega
  · rename_i g
    rcases q with q | ⟨i, hi, ha, q, hl⟩
    · exact absurd (by rw [q, l_le]; omega) g
    · have := ctM_lt (σ := σ) (r := r) (h := h) (t := at_) (u := (f10_shaded_I σ r h at_ 11 at_ to (0 : Int32)).2) (by rw [q]; exact hl) ha (Or.inl q) 10 hi
      omega
theorem mu_a {σ : St} {r h : Int32} {to at_ : Int64} {n : Nat} (hs : Safe σ) (hm : mu σ r h to at_ < n + 1) (h1 : ¬ to ≤ at_) (h2 : ¬ (f10_shaded_I σ r h at_ 11 at_ to (0 : Int32)).1 ≤ at_) : mu σ r h to (f10_shaded_en to (f10_shaded_I σ r h at_ 11 at_ to (0 : Int32)).1) < n := by
  obtain ⟨q, -⟩ := shI_prop hs (r := r) (h := h) (at_ := at_) 11 at_ to (0 : Int32) (by rw [lit_0]; decide)
  rw [mu, if_neg h1] at hm
  rw [mu]
  split
  · omega
  · rename_i g
    unfold f10_shaded_en at g ⊢
    split at g
    · rename_i g2; exact absurd (by rw [l_le]; omega) g
    · rename_i g2
      rw [if_neg g2]
      rcases q with q | ⟨i, hi, ha, q⟩
      · exact absurd (by rw [q, l_le]; omega) h2
      · have := ctM_lt (σ := σ) (r := r) (h := h) (t := at_) (u := (f10_shaded_I σ r h at_ 11 at_ to (0 : Int32)).1) (by rw [l_le] at h2; rw [l_lt]; omega) ha (Or.inr q) 10 hi
        omega
def f10_shaded_W (σ : St) (a1 : Int32) (a2 : Int32) (to : Int64) : Nat → Int64 → Int64 → Int64
  | 0, _, _ => (0)
  | n + 1, su, pt => (if to ≤ pt then su else (if ((f10_shaded_I σ a1 a2 pt 11 pt to (0 : Int32))).1 ≤ pt then (f10_shaded_W σ a1 a2 to n su (((f10_shaded_I σ a1 a2 pt 11 pt to (0 : Int32))).2)) else (f10_shaded_W σ a1 a2 to n (su + ((f10_shaded_en to (((f10_shaded_I σ a1 a2 pt 11 pt to (0 : Int32))).1)) - pt)) (f10_shaded_en to (((f10_shaded_I σ a1 a2 pt 11 pt to (0 : Int32))).1)))))
set_option maxHeartbeats 4000000 in
set_option maxRecDepth 100000 in
theorem bf10_shaded_W {X : CX} {Λ : LY} (C : OK X Λ cX10_shaded 24 RX10 2 52) {σ : St} {res : Int64} (E : EN X Λ (some .long) (some (.long res)) σ) (a1 : Int32) (a2 : Int32) (to : Int64)  : ∀ (n : Nat) (su : Int64) (pt : Int64), (hs : Safe σ) → (h3 : vp_in a2 24) → (hm : mu σ a1 a2 to pt < n) → (f10_shaded_W σ a1 a2 to n su pt) = res → VV X Λ 24 6 [(0, .ref (adr Λ 37)), (1, .int (a1)), (2, .int (a2)), (5, .long (to)), (7, .long (su)), (9, .long (pt))] [] σ := by
  intro n
  induction n with
  | zero => intro su pt hs h3 hm hres; exact absurd hm (Nat.not_lt_zero _)
  | succ n ih =>
    intro su pt hs h3 hm hres
    rw [f10_shaded_W] at hres
    refine v_lload (pc2 := 8) C 5 dX10_shaded_6 rfl rfl ?_
    refine v_lload (pc2 := 10) C 3 dX10_shaded_8 rfl rfl ?_
    refine v_lcge (pc2 := 213) (pc3 := 14) C dX10_shaded_10 dX10_shaded_11 rfl rfl (fun h10 => ?_) (fun h10 => ?_)
    · have hres := (if_pos h10).symm.trans hres
      refine v_lload (pc2 := 215) C 4 dX10_shaded_213 rfl rfl ?_
      exact r_lP C E hres dX10_shaded_215
    · have hres := (if_neg h10).symm.trans hres
      refine v_lload (pc2 := 16) C 5 dX10_shaded_14 rfl rfl ?_
      refine v_lstore (pc2 := 18) (lv2 := [(11, _), (0, _), (1, _), (2, _), (5, _), (7, _), (9, _)]) C dX10_shaded_16 (by decide) rfl rfl ?_
      refine v_lload (pc2 := 20) C 4 dX10_shaded_18 rfl rfl ?_
      refine v_lstore (pc2 := 22) (lv2 := [(13, _), (11, _), (0, _), (1, _), (2, _), (5, _), (7, _), (9, _)]) C dX10_shaded_20 (by decide) rfl rfl ?_
      refine v_iconst (pc2 := 23) C dX10_shaded_22 ki_0 rfl ?_
      refine v_istore (pc2 := 25) (lv2 := [(15, _), (13, _), (11, _), (0, _), (1, _), (2, _), (5, _), (7, _), (9, _)]) C dX10_shaded_23 (by decide) rfl rfl ?_
      refine v_lv [3, 4, 5, 6, 7, 8, 2, 1, 0] rfl ?_
      refine bf10_shaded_I C σ a1 a2 to su pt (out := (f10_shaded_I σ a1 a2 pt 11 pt to (0 : Int32))) ?_ 11 pt to (0 : Int32) hs h3 UP.start rfl
      refine v_lload (pc2 := 166) C 6 dX10_shaded_164 rfl rfl ?_
      refine v_lload (pc2 := 168) C 5 dX10_shaded_166 rfl rfl ?_
      refine v_lcle (pc2 := 206) (pc3 := 172) C dX10_shaded_168 dX10_shaded_169 rfl rfl (fun h168 => ?_) (fun h168 => ?_)
      · have hres := (if_pos h168).symm.trans hres
        refine v_lload (pc2 := 208) C 7 dX10_shaded_206 rfl rfl ?_
        refine v_lstore (pc2 := 210) (lv2 := [(9, _), (0, _), (1, _), (2, _), (5, _), (7, _), (11, _), (13, _)]) C dX10_shaded_208 (by decide) rfl rfl ?_
        refine v_goto (pc2 := 6) C dX10_shaded_210 rfl ?_
        exact v_lv [1, 2, 3, 4, 5, 0] rfl (ih _ _ hs h3 (mu_b hs hm h10) hres)
      · have hres := (if_neg h168).symm.trans hres
        refine v_lv [0, 1, 2, 3, 4, 5, 6, 7] rfl ?_
        refine bf10_shaded_en C σ a1 a2 to su pt (((f10_shaded_I σ a1 a2 pt 11 pt to (0 : Int32))).1) (((f10_shaded_I σ a1 a2 pt 11 pt to (0 : Int32))).2) (out := (f10_shaded_en to (((f10_shaded_I σ a1 a2 pt 11 pt to (0 : Int32))).1))) ?_   rfl
        refine v_lstore (pc2 := 189) (lv2 := [(15, _), (0, _), (1, _), (2, _), (5, _), (7, _), (9, _)]) C dX10_shaded_187 (by decide) rfl rfl ?_
        refine v_lload (pc2 := 191) C 5 dX10_shaded_189 rfl rfl ?_
        refine v_lload (pc2 := 193) C 0 dX10_shaded_191 rfl rfl ?_
        refine v_lload (pc2 := 195) C 6 dX10_shaded_193 rfl rfl ?_
        refine v_lsub (pc2 := 196) C dX10_shaded_195 rfl ?_
        refine v_ladd (pc2 := 197) C dX10_shaded_196 rfl ?_
        refine v_lstore (pc2 := 199) (lv2 := [(7, _), (15, _), (0, _), (1, _), (2, _), (5, _), (9, _)]) C dX10_shaded_197 (by decide) rfl rfl ?_
        refine v_lload (pc2 := 201) C 1 dX10_shaded_199 rfl rfl ?_
        refine v_lstore (pc2 := 203) (lv2 := [(9, _), (7, _), (15, _), (0, _), (1, _), (2, _), (5, _)]) C dX10_shaded_201 (by decide) rfl rfl ?_
        refine v_goto (pc2 := 210) C dX10_shaded_203 rfl ?_
        refine v_goto (pc2 := 6) C dX10_shaded_210 rfl ?_
        exact v_lv [3, 4, 5, 6, 1, 0] rfl (ih _ _ hs h3 (mu_a hs hm h10 h168) hres)
def f10_shaded (σ : St) (a1 : Int32) (a2 : Int32) (a3 : Int64) (a4 : Int64) : Int64 :=
  (f10_shaded_W σ a1 a2 a4 22 (0 : Int64) a3)
set_option maxHeartbeats 4000000 in
set_option maxRecDepth 100000 in
theorem bf10_shaded {X : CX} {Λ : LY} (C : OK X Λ cX10_shaded 24 RX10 2 52) {σ : St} {res : Int64} (E : EN X Λ (some .long) (some (.long res)) σ) (a1 : Int32) (a2 : Int32) (a3 : Int64) (a4 : Int64) (hs : Safe σ) (h3 : vp_in a2 24) (hres : (f10_shaded σ a1 a2 a3 a4) = res) : VV X Λ 24 0 [(0, .ref (adr Λ 37)), (1, .int (a1)), (2, .int (a2)), (3, .long (a3)), (5, .long (a4))] [] σ := by
  unfold f10_shaded at hres
  refine v_lconst (pc2 := 1) C dX10_shaded_0 kl_0 rfl ?_
  refine v_lstore (pc2 := 3) (lv2 := [(7, _), (0, _), (1, _), (2, _), (3, _), (5, _)]) C dX10_shaded_1 (by decide) rfl rfl ?_
  refine v_lload_n (pc2 := 4) C 4 dX10_shaded_3 rfl rfl ?_
  refine v_lstore (pc2 := 6) (lv2 := [(9, _), (7, _), (0, _), (1, _), (2, _), (3, _), (5, _)]) C dX10_shaded_4 (by decide) rfl rfl ?_
  exact v_lv [2, 3, 4, 6, 1, 0] rfl (bf10_shaded_W C E _ _ _ 22 _ _ hs h3 (mu_lt _ _ _ _ _)  hres)
theorem mX10_shaded (l : Launch) (Λ : LY) (σ : St) (a1 : Int32) (a2 : Int32) (a3 : Int64) (a4 : Int64) (hs : Safe σ) (h3 : vp_in a2 24) : CT l Λ yX10_shaded cX10_shaded 24 (some .long) 2 52 [.ref (adr Λ 37), .int (a1), .int (a2), .long (a3), .long (a4)] σ (some (.long (f10_shaded σ a1 a2 a3 a4))) σ := by
  refine CT_of (by decide +kernel) (Nat.le_of_ble_eq_true rfl) ?_
  intro X hX C E
  obtain ⟨res, hres⟩ : ∃ r, (f10_shaded σ a1 a2 a3 a4) = r := ⟨_, rfl⟩
  rw [hres] at E
  exact bf10_shaded C E _ _ _ _  hs h3 hres
def f10_shadeOf (σ : St) (a1 : Int32) (a2 : Int32) : Int64 :=
  ((f10_shaded σ a1 a2 ((3 : Int64) * (f10_look σ a1 (0 : Int32) a2)) ((3 : Int64) * (f10_look σ a1 (1 : Int32) a2))) / (3 : Int64))
set_option maxHeartbeats 4000000 in
set_option maxRecDepth 100000 in
theorem bf10_shadeOf {X : CX} {Λ : LY} (C : OK X Λ cX10_shadeOf 3 RX10 3 95) {σ : St} {res : Int64} (E : EN X Λ (some .long) (some (.long res)) σ) (a1 : Int32) (a2 : Int32) (hs : Safe σ) (h1 : vp_in a1 10) (h3 : vp_in a2 24) (hres : (f10_shadeOf σ a1 a2) = res) : VV X Λ 3 0 [(0, .ref (adr Λ 37)), (1, .int (a1)), (2, .int (a2))] [] σ := by
  unfold f10_shadeOf at hres
  refine v_aload_n (pc2 := 1) C 0 dX10_shadeOf_0 rfl rfl ?_
  refine v_iload_n (pc2 := 2) C 1 dX10_shadeOf_1 rfl rfl ?_
  refine v_iload_n (pc2 := 3) C 2 dX10_shadeOf_2 rfl rfl ?_
  refine v_ldc2 (pc2 := 6) C lc_X10_165 dX10_shadeOf_3 rfl ?_
  refine v_aload_n (pc2 := 7) C 0 dX10_shadeOf_6 rfl rfl ?_
  refine v_iload_n (pc2 := 8) C 1 dX10_shadeOf_7 rfl rfl ?_
  refine v_iconst (pc2 := 9) C dX10_shadeOf_8 ki_0 rfl ?_
  refine v_iload_n (pc2 := 10) C 2 dX10_shadeOf_9 rfl rfl ?_
  refine v_cVl (pc2 := 13) C kc_X10_158 (mX10_look (xl X) Λ _ _ _ _ h1 h3) (wd37 Λ _) rfl (by decide) rfl rfl (Nat.le_of_ble_eq_true rfl) dX10_shadeOf_10 rfl ?_
  refine v_lmul (pc2 := 14) C dX10_shadeOf_13 rfl ?_
  refine v_ldc2 (pc2 := 17) C lc_X10_165 dX10_shadeOf_14 rfl ?_
  refine v_aload_n (pc2 := 18) C 0 dX10_shadeOf_17 rfl rfl ?_
  refine v_iload_n (pc2 := 19) C 1 dX10_shadeOf_18 rfl rfl ?_
  refine v_iconst (pc2 := 20) C dX10_shadeOf_19 ki_1 rfl ?_
  refine v_iload_n (pc2 := 21) C 2 dX10_shadeOf_20 rfl rfl ?_
  refine v_cVl (pc2 := 24) C kc_X10_158 (mX10_look (xl X) Λ _ _ _ _ h1 h3) (wd37 Λ _) rfl (by decide) rfl rfl (Nat.le_of_ble_eq_true rfl) dX10_shadeOf_21 rfl ?_
  refine v_lmul (pc2 := 25) C dX10_shadeOf_24 rfl ?_
  refine v_cVl (pc2 := 28) C kc_X10_167 (mX10_shaded (xl X) Λ _ _ _ _ _ hs h3) (wd37 Λ _) rfl (by decide) rfl rfl (Nat.le_of_ble_eq_true rfl) dX10_shadeOf_25 rfl ?_
  refine v_ldc2 (pc2 := 31) C lc_X10_165 dX10_shadeOf_28 rfl ?_
  refine v_ldiv (pc2 := 32) C dX10_shadeOf_31 (by decide) rfl ?_
  exact r_lP C E hres dX10_shadeOf_32
theorem mX10_shadeOf (l : Launch) (Λ : LY) (σ : St) (a1 : Int32) (a2 : Int32) (hs : Safe σ) (h1 : vp_in a1 10) (h3 : vp_in a2 24) : CT l Λ yX10_shadeOf cX10_shadeOf 3 (some .long) 3 95 [.ref (adr Λ 37), .int (a1), .int (a2)] σ (some (.long (f10_shadeOf σ a1 a2))) σ := by
  refine CT_of (by decide +kernel) (Nat.le_of_ble_eq_true rfl) ?_
  intro X hX C E
  obtain ⟨res, hres⟩ : ∃ r, (f10_shadeOf σ a1 a2) = r := ⟨_, rfl⟩
  rw [hres] at E
  exact bf10_shadeOf C E _ _  hs h1 h3 hres
def f10_darkOf_L (σ : St) (a1 : Int32) (a2 : Int32) (fr : Int64) (th : Int64) : Nat → Int32 → Int32 → Int32
  | 0, _, _ => (0)
  | n + 1, b, q => (if (3 : Int32) ≤ q then b else (if (f10_shaded σ a1 a2 (fr + ((Int32.toInt64 q) * th)) (fr + ((Int32.toInt64 (q + (1 : Int32))) * th))) ≤ (0 : Int64) then (f10_darkOf_L σ a1 a2 fr th n (b ||| (0 : Int32)) (q + (1 : Int32))) else (f10_darkOf_L σ a1 a2 fr th n (b ||| ((1 : Int32) <<< (q &&& 31))) (q + (1 : Int32)))))
set_option maxHeartbeats 4000000 in
set_option maxRecDepth 100000 in
theorem bf10_darkOf_L {X : CX} {Λ : LY} (C : OK X Λ cX10_darkOf 9 RX10 3 95) {σ : St} {res : Int32} (E : EN X Λ (some .int) (some (.int res)) σ) (a1 : Int32) (a2 : Int32) (fr : Int64) (th : Int64)  : ∀ (n : Nat) (b : Int32) (q : Int32), (hs : Safe σ) → (h3 : vp_in a2 24) → (hu : UP 3 q n) → (f10_darkOf_L σ a1 a2 fr th n b q) = res → VV X Λ 9 26 [(0, .ref (adr Λ 37)), (1, .int (a1)), (2, .int (a2)), (3, .long (fr)), (5, .long (th)), (7, .int (b)), (8, .int (q))] [] σ := by
  intro n
  induction n with
  | zero => intro b q hs h3 hu hres; exact absurd hu (fun h => h.z)
  | succ n ih =>
    intro b q hs h3 hu hres
    rw [f10_darkOf_L] at hres
    refine v_iload (pc2 := 28) C 6 dX10_darkOf_26 rfl rfl ?_
    refine v_iconst (pc2 := 29) C dX10_darkOf_28 ki_3 rfl ?_
    refine v_icmpge (pc2 := 80) (pc3 := 32) C dX10_darkOf_29 rfl rfl (fun h29 => ?_) (fun h29 => ?_)
    · have hres := (if_pos h29).symm.trans hres
      refine v_iload (pc2 := 82) C 5 dX10_darkOf_80 rfl rfl ?_
      exact r_iP C E hres dX10_darkOf_82
    · have hres := (if_neg h29).symm.trans hres
      refine v_iload (pc2 := 34) C 5 dX10_darkOf_32 rfl rfl ?_
      refine v_aload_n (pc2 := 35) C 0 dX10_darkOf_34 rfl rfl ?_
      refine v_iload_n (pc2 := 36) C 1 dX10_darkOf_35 rfl rfl ?_
      refine v_iload_n (pc2 := 37) C 2 dX10_darkOf_36 rfl rfl ?_
      refine v_lload_n (pc2 := 38) C 3 dX10_darkOf_37 rfl rfl ?_
      refine v_iload (pc2 := 40) C 6 dX10_darkOf_38 rfl rfl ?_
      refine v_i2l (pc2 := 41) C dX10_darkOf_40 rfl ?_
      refine v_lload (pc2 := 43) C 4 dX10_darkOf_41 rfl rfl ?_
      refine v_lmul (pc2 := 44) C dX10_darkOf_43 rfl ?_
      refine v_ladd (pc2 := 45) C dX10_darkOf_44 rfl ?_
      refine v_lload_n (pc2 := 46) C 3 dX10_darkOf_45 rfl rfl ?_
      refine v_iload (pc2 := 48) C 6 dX10_darkOf_46 rfl rfl ?_
      refine v_iconst (pc2 := 49) C dX10_darkOf_48 ki_1 rfl ?_
      refine v_iadd (pc2 := 50) C dX10_darkOf_49 rfl ?_
      refine v_i2l (pc2 := 51) C dX10_darkOf_50 rfl ?_
      refine v_lload (pc2 := 53) C 4 dX10_darkOf_51 rfl rfl ?_
      refine v_lmul (pc2 := 54) C dX10_darkOf_53 rfl ?_
      refine v_ladd (pc2 := 55) C dX10_darkOf_54 rfl ?_
      refine v_cVl (pc2 := 58) C kc_X10_167 (mX10_shaded (xl X) Λ _ _ _ _ _ hs h3) (wd37 Λ _) rfl (by decide) rfl rfl (Nat.le_of_ble_eq_true rfl) dX10_darkOf_55 rfl ?_
      refine v_lconst (pc2 := 59) C dX10_darkOf_58 kl_0 rfl ?_
      refine v_lcle (pc2 := 70) (pc3 := 63) C dX10_darkOf_59 dX10_darkOf_60 rfl rfl (fun h59 => ?_) (fun h59 => ?_)
      · have hres := (if_pos h59).symm.trans hres
        refine v_iconst (pc2 := 71) C dX10_darkOf_70 ki_0 rfl ?_
        refine v_ior (pc2 := 72) C dX10_darkOf_71 rfl ?_
        refine v_istore (pc2 := 74) (lv2 := [(7, _), (0, _), (1, _), (2, _), (3, _), (5, _), (8, _)]) C dX10_darkOf_72 (by decide) rfl rfl ?_
        refine v_iinc (pc2 := 77) (lv2 := [(8, _), (7, _), (0, _), (1, _), (2, _), (3, _), (5, _)]) C 6 dX10_darkOf_74 rfl ki_1 (by decide) rfl rfl ?_
        refine v_goto (pc2 := 26) C dX10_darkOf_77 rfl ?_
        exact v_lv [2, 3, 4, 5, 6, 1, 0] rfl (ih _ _ hs h3 (hu.step h29 (by rw [lit_3]; decide) (by decide)) hres)
      · have hres := (if_neg h59).symm.trans hres
        refine v_iconst (pc2 := 64) C dX10_darkOf_63 ki_1 rfl ?_
        refine v_iload (pc2 := 66) C 6 dX10_darkOf_64 rfl rfl ?_
        refine v_ishl (pc2 := 67) C dX10_darkOf_66 rfl ?_
        refine v_goto (pc2 := 71) C dX10_darkOf_67 rfl ?_
        refine v_ior (pc2 := 72) C dX10_darkOf_71 rfl ?_
        refine v_istore (pc2 := 74) (lv2 := [(7, _), (0, _), (1, _), (2, _), (3, _), (5, _), (8, _)]) C dX10_darkOf_72 (by decide) rfl rfl ?_
        refine v_iinc (pc2 := 77) (lv2 := [(8, _), (7, _), (0, _), (1, _), (2, _), (3, _), (5, _)]) C 6 dX10_darkOf_74 rfl ki_1 (by decide) rfl rfl ?_
        refine v_goto (pc2 := 26) C dX10_darkOf_77 rfl ?_
        exact v_lv [2, 3, 4, 5, 6, 1, 0] rfl (ih _ _ hs h3 (hu.step h29 (by rw [lit_3]; decide) (by decide)) hres)
def f10_darkOf (σ : St) (a1 : Int32) (a2 : Int32) : Int32 :=
  (f10_darkOf_L σ a1 a2 ((3 : Int64) * (f10_look σ a1 (0 : Int32) a2)) (f10_breadthOf σ a1 a2) 4 (0 : Int32) (0 : Int32))
set_option maxHeartbeats 4000000 in
set_option maxRecDepth 100000 in
theorem bf10_darkOf {X : CX} {Λ : LY} (C : OK X Λ cX10_darkOf 9 RX10 3 95) {σ : St} {res : Int32} (E : EN X Λ (some .int) (some (.int res)) σ) (a1 : Int32) (a2 : Int32) (hs : Safe σ) (h1 : vp_in a1 10) (h3 : vp_in a2 24) (hres : (f10_darkOf σ a1 a2) = res) : VV X Λ 9 0 [(0, .ref (adr Λ 37)), (1, .int (a1)), (2, .int (a2))] [] σ := by
  unfold f10_darkOf at hres
  refine v_ldc2 (pc2 := 3) C lc_X10_165 dX10_darkOf_0 rfl ?_
  refine v_aload_n (pc2 := 4) C 0 dX10_darkOf_3 rfl rfl ?_
  refine v_iload_n (pc2 := 5) C 1 dX10_darkOf_4 rfl rfl ?_
  refine v_iconst (pc2 := 6) C dX10_darkOf_5 ki_0 rfl ?_
  refine v_iload_n (pc2 := 7) C 2 dX10_darkOf_6 rfl rfl ?_
  refine v_cVl (pc2 := 10) C kc_X10_158 (mX10_look (xl X) Λ _ _ _ _ h1 h3) (wd37 Λ _) rfl (by decide) rfl rfl (Nat.le_of_ble_eq_true rfl) dX10_darkOf_7 rfl ?_
  refine v_lmul (pc2 := 11) C dX10_darkOf_10 rfl ?_
  refine v_lstore_n (pc2 := 12) (lv2 := [(3, _), (0, _), (1, _), (2, _)]) C dX10_darkOf_11 (by decide) rfl rfl ?_
  refine v_aload_n (pc2 := 13) C 1 dX10_darkOf_12 rfl rfl ?_
  refine v_iload_n (pc2 := 14) C 2 dX10_darkOf_13 rfl rfl ?_
  refine v_iload_n (pc2 := 15) C 3 dX10_darkOf_14 rfl rfl ?_
  refine v_cVl (pc2 := 18) C kc_X10_171 (mX10_breadthOf (xl X) Λ _ _ _ h1 h3) (wd37 Λ _) rfl (by decide) rfl rfl (Nat.le_of_ble_eq_true rfl) dX10_darkOf_15 rfl ?_
  refine v_lstore (pc2 := 20) (lv2 := [(5, _), (3, _), (0, _), (1, _), (2, _)]) C dX10_darkOf_18 (by decide) rfl rfl ?_
  refine v_iconst (pc2 := 21) C dX10_darkOf_20 ki_0 rfl ?_
  refine v_istore (pc2 := 23) (lv2 := [(7, _), (5, _), (3, _), (0, _), (1, _), (2, _)]) C dX10_darkOf_21 (by decide) rfl rfl ?_
  refine v_iconst (pc2 := 24) C dX10_darkOf_23 ki_0 rfl ?_
  refine v_istore (pc2 := 26) (lv2 := [(8, _), (7, _), (5, _), (3, _), (0, _), (1, _), (2, _)]) C dX10_darkOf_24 (by decide) rfl rfl ?_
  exact v_lv [4, 5, 6, 3, 2, 1, 0] rfl (bf10_darkOf_L C E _ _ _ _ 4 _ _ hs h3 UP.start  hres)
theorem mX10_darkOf (l : Launch) (Λ : LY) (σ : St) (a1 : Int32) (a2 : Int32) (hs : Safe σ) (h1 : vp_in a1 10) (h3 : vp_in a2 24) : CT l Λ yX10_darkOf cX10_darkOf 9 (some .int) 3 95 [.ref (adr Λ 37), .int (a1), .int (a2)] σ (some (.int (f10_darkOf σ a1 a2))) σ := by
  refine CT_of (by decide +kernel) (Nat.le_of_ble_eq_true rfl) ?_
  intro X hX C E
  obtain ⟨res, hres⟩ : ∃ r, (f10_darkOf σ a1 a2) = r := ⟨_, rfl⟩
  rw [hres] at E
  exact bf10_darkOf C E _ _  hs h1 h3 hres
def f10_idealOf_a (k : Int32) : Int32 :=
  (if (0 : Int32) ≤ k then k else (-k))
set_option maxHeartbeats 4000000 in
set_option maxRecDepth 100000 in
theorem bf10_idealOf_a {X : CX} {Λ : LY} (C : OK X Λ cX10_idealOf 10 RX10 1 22) (σ : St) {out : Int32} (a1 : Int32) (be : Int32) (mo : Int64) (k : Int32) (v : Int64) (kk : VV X Λ 10 57 [(0, .ref (adr Λ 37)), (1, .int (a1)), (2, .int (be)), (3, .long (mo)), (5, .int (k)), (6, .long (v))] [.int (out)] (σ))  (hres : (f10_idealOf_a k) = out) : VV X Λ 10 44 [(0, .ref (adr Λ 37)), (1, .int (a1)), (2, .int (be)), (3, .long (mo)), (5, .int (k)), (6, .long (v))] [] σ := by
  unfold f10_idealOf_a at hres
  refine v_iload (pc2 := 46) C 4 dX10_idealOf_44 rfl rfl ?_
  refine v_ifge (pc2 := 55) (pc3 := 49) C dX10_idealOf_46 rfl rfl (fun h46 => ?_) (fun h46 => ?_)
  · have hres := (if_pos h46).symm.trans hres
    refine v_iload (pc2 := 57) C 4 dX10_idealOf_55 rfl rfl ?_
    subst hres
    exact v_lv [0, 1, 2, 3, 4, 5] rfl kk
  · have hres := (if_neg h46).symm.trans hres
    refine v_iload (pc2 := 51) C 4 dX10_idealOf_49 rfl rfl ?_
    refine v_ineg (pc2 := 52) C dX10_idealOf_51 rfl ?_
    refine v_goto (pc2 := 57) C dX10_idealOf_52 rfl ?_
    subst hres
    exact v_lv [0, 1, 2, 3, 4, 5] rfl kk
def f10_idealOf_b (be : Int32) : Int32 :=
  (if (0 : Int32) ≤ be then be else (-be))
set_option maxHeartbeats 4000000 in
set_option maxRecDepth 100000 in
theorem bf10_idealOf_b {X : CX} {Λ : LY} (C : OK X Λ cX10_idealOf 10 RX10 1 22) (σ : St) {out : Int32} (a1 : Int32) (be : Int32) (mo : Int64) (k : Int32) (v : Int64) (fr : Int32) (kk : VV X Λ 10 69 [(0, .ref (adr Λ 37)), (1, .int (a1)), (2, .int (be)), (3, .long (mo)), (5, .int (k)), (6, .long (v)), (8, .int (fr))] [.int (out)] (σ))  (hres : (f10_idealOf_b be) = out) : VV X Λ 10 59 [(0, .ref (adr Λ 37)), (1, .int (a1)), (2, .int (be)), (3, .long (mo)), (5, .int (k)), (6, .long (v)), (8, .int (fr))] [] σ := by
  unfold f10_idealOf_b at hres
  refine v_iload_n (pc2 := 60) C 2 dX10_idealOf_59 rfl rfl ?_
  refine v_ifge (pc2 := 68) (pc3 := 63) C dX10_idealOf_60 rfl rfl (fun h60 => ?_) (fun h60 => ?_)
  · have hres := (if_pos h60).symm.trans hres
    refine v_iload_n (pc2 := 69) C 2 dX10_idealOf_68 rfl rfl ?_
    subst hres
    exact v_lv [0, 1, 2, 3, 4, 5, 6] rfl kk
  · have hres := (if_neg h60).symm.trans hres
    refine v_iload_n (pc2 := 64) C 2 dX10_idealOf_63 rfl rfl ?_
    refine v_ineg (pc2 := 65) C dX10_idealOf_64 rfl ?_
    refine v_goto (pc2 := 69) C dX10_idealOf_65 rfl ?_
    subst hres
    exact v_lv [0, 1, 2, 3, 4, 5, 6] rfl kk
def f10_idealOf_L (σ : St) (a1 : Int32) : Nat → Int32 → Int64 → Int32 → Int32
  | 0, _, _, _ => (0)
  | n + 1, be, mo, k => (if (12 : Int32) < k then be else (if k = (-12 : Int32) then (f10_idealOf_L σ a1 n k (((f10_cosine k) * (Int32.toInt64 (gA σ 28 (Int32.toNatClampNeg a1)))) - ((f10_sine k) * (Int32.toInt64 (gA σ 27 (Int32.toNatClampNeg a1))))) (k + (1 : Int32))) else (if mo < (((f10_cosine k) * (Int32.toInt64 (gA σ 28 (Int32.toNatClampNeg a1)))) - ((f10_sine k) * (Int32.toInt64 (gA σ 27 (Int32.toNatClampNeg a1))))) then (f10_idealOf_L σ a1 n k (((f10_cosine k) * (Int32.toInt64 (gA σ 28 (Int32.toNatClampNeg a1)))) - ((f10_sine k) * (Int32.toInt64 (gA σ 27 (Int32.toNatClampNeg a1))))) (k + (1 : Int32))) else (if (((f10_cosine k) * (Int32.toInt64 (gA σ 28 (Int32.toNatClampNeg a1)))) - ((f10_sine k) * (Int32.toInt64 (gA σ 27 (Int32.toNatClampNeg a1))))) = mo then (if (f10_idealOf_b be) ≤ (f10_idealOf_a k) then (f10_idealOf_L σ a1 n be mo (k + (1 : Int32))) else (f10_idealOf_L σ a1 n k (((f10_cosine k) * (Int32.toInt64 (gA σ 28 (Int32.toNatClampNeg a1)))) - ((f10_sine k) * (Int32.toInt64 (gA σ 27 (Int32.toNatClampNeg a1))))) (k + (1 : Int32)))) else (f10_idealOf_L σ a1 n be mo (k + (1 : Int32)))))))
set_option maxHeartbeats 4000000 in
set_option maxRecDepth 100000 in
theorem bf10_idealOf_L {X : CX} {Λ : LY} (C : OK X Λ cX10_idealOf 10 RX10 1 22) {σ : St} {res : Int32} (E : EN X Λ (some .int) (some (.int res)) σ) (a1 : Int32)  : ∀ (n : Nat) (be : Int32) (mo : Int64) (k : Int32), (h3 : vp_in a1 24) → (hk : -12 ≤ k.toInt ∧ k.toInt ≤ 13 ∧ 14 ≤ k.toInt + n) → (f10_idealOf_L σ a1 n be mo k) = res → VV X Λ 10 8 [(0, .ref (adr Λ 37)), (1, .int (a1)), (2, .int (be)), (3, .long (mo)), (5, .int (k))] [] σ := by
  intro n
  induction n with
  | zero => intro be mo k h3 hk hres; exact absurd hk (by omega)
  | succ n ih =>
    intro be mo k h3 hk hres
    rw [f10_idealOf_L] at hres
    refine v_iload (pc2 := 10) C 4 dX10_idealOf_8 rfl rfl ?_
    refine v_bipush (pc2 := 12) C dX10_idealOf_10 kb_12 rfl ?_
    refine v_icmpgt (pc2 := 111) (pc3 := 15) C dX10_idealOf_12 rfl rfl (fun h12 => ?_) (fun h12 => ?_)
    · have hres := (if_pos h12).symm.trans hres
      refine v_iload_n (pc2 := 112) C 2 dX10_idealOf_111 rfl rfl ?_
      exact r_iP C E hres dX10_idealOf_112
    · have hres := (if_neg h12).symm.trans hres
      refine v_iload (pc2 := 17) C 4 dX10_idealOf_15 rfl rfl ?_
      refine v_cSl (pc2 := 20) C kc_X10_151 (mX10_cosine (xl X) Λ _ _) (by decide) rfl rfl (Nat.le_of_ble_eq_true rfl) dX10_idealOf_17 rfl ?_
      refine v_aload_n (pc2 := 21) C 0 dX10_idealOf_20 rfl rfl ?_
      refine vg_X10_sunY (pc2 := 24) C lf_X10_34 dX10_idealOf_21 rfl ?_
      refine v_iload_n (pc2 := 25) C 1 dX10_idealOf_24 rfl rfl ?_
      refine al46 (pc2 := 26) C h3 dX10_idealOf_25 rfl ?_
      refine v_i2l (pc2 := 27) C dX10_idealOf_26 rfl ?_
      refine v_lmul (pc2 := 28) C dX10_idealOf_27 rfl ?_
      refine v_iload (pc2 := 30) C 4 dX10_idealOf_28 rfl rfl ?_
      refine v_cSl (pc2 := 33) C kc_X10_155 (mX10_sine (xl X) Λ _ _) (by decide) rfl rfl (Nat.le_of_ble_eq_true rfl) dX10_idealOf_30 rfl ?_
      refine v_aload_n (pc2 := 34) C 0 dX10_idealOf_33 rfl rfl ?_
      refine vg_X10_sunX (pc2 := 37) C lf_X10_31 dX10_idealOf_34 rfl ?_
      refine v_iload_n (pc2 := 38) C 1 dX10_idealOf_37 rfl rfl ?_
      refine al45 (pc2 := 39) C h3 dX10_idealOf_38 rfl ?_
      refine v_i2l (pc2 := 40) C dX10_idealOf_39 rfl ?_
      refine v_lmul (pc2 := 41) C dX10_idealOf_40 rfl ?_
      refine v_lsub (pc2 := 42) C dX10_idealOf_41 rfl ?_
      refine v_lstore (pc2 := 44) (lv2 := [(6, _), (0, _), (1, _), (2, _), (3, _), (5, _)]) C dX10_idealOf_42 (by decide) rfl rfl ?_
      refine v_lv [1, 2, 3, 4, 5, 0] rfl ?_
      refine bf10_idealOf_a C σ a1 be mo k (((f10_cosine k) * (Int32.toInt64 (gA σ 28 (Int32.toNatClampNeg a1)))) - ((f10_sine k) * (Int32.toInt64 (gA σ 27 (Int32.toNatClampNeg a1))))) (out := (f10_idealOf_a k)) ?_   rfl
      refine v_istore (pc2 := 59) (lv2 := [(8, _), (0, _), (1, _), (2, _), (3, _), (5, _), (6, _)]) C dX10_idealOf_57 (by decide) rfl rfl ?_
      refine v_lv [1, 2, 3, 4, 5, 6, 0] rfl ?_
      refine bf10_idealOf_b C σ a1 be mo k (((f10_cosine k) * (Int32.toInt64 (gA σ 28 (Int32.toNatClampNeg a1)))) - ((f10_sine k) * (Int32.toInt64 (gA σ 27 (Int32.toNatClampNeg a1))))) (f10_idealOf_a k) (out := (f10_idealOf_b be)) ?_   rfl
      refine v_istore (pc2 := 71) (lv2 := [(9, _), (0, _), (1, _), (2, _), (3, _), (5, _), (6, _), (8, _)]) C dX10_idealOf_69 (by decide) rfl rfl ?_
      refine v_iload (pc2 := 73) C 5 dX10_idealOf_71 rfl rfl ?_
      refine v_bipush (pc2 := 75) C dX10_idealOf_73 kb_m12 rfl ?_
      refine v_icmpeq (pc2 := 99) (pc3 := 78) C dX10_idealOf_75 rfl rfl (fun h75 => ?_) (fun h75 => ?_)
      · have hres := (if_pos h75).symm.trans hres
        refine v_iload (pc2 := 101) C 5 dX10_idealOf_99 rfl rfl ?_
        refine v_istore_n (pc2 := 102) (lv2 := [(2, _), (9, _), (0, _), (1, _), (3, _), (5, _), (6, _), (8, _)]) C dX10_idealOf_101 (by decide) rfl rfl ?_
        refine v_lload (pc2 := 104) C 6 dX10_idealOf_102 rfl rfl ?_
        refine v_lstore_n (pc2 := 105) (lv2 := [(3, _), (2, _), (9, _), (0, _), (1, _), (5, _), (6, _), (8, _)]) C dX10_idealOf_104 (by decide) rfl rfl ?_
        refine v_iinc (pc2 := 108) (lv2 := [(5, _), (3, _), (2, _), (9, _), (0, _), (1, _), (6, _), (8, _)]) C 5 dX10_idealOf_105 rfl ki_1 (by decide) rfl rfl ?_
        refine v_goto (pc2 := 8) C dX10_idealOf_108 rfl ?_
        exact v_lv [4, 5, 2, 1, 0] rfl (ih _ _ _ h3 (by have := t_nlt h12 lit_12 rfl; rw [i_add1 (b := 13) (by omega) (by omega)]; omega) hres)
      · have hres := (if_neg h75).symm.trans hres
        refine v_lload (pc2 := 80) C 6 dX10_idealOf_78 rfl rfl ?_
        refine v_lload_n (pc2 := 81) C 4 dX10_idealOf_80 rfl rfl ?_
        refine v_lcgt (pc2 := 99) (pc3 := 85) C dX10_idealOf_81 dX10_idealOf_82 rfl rfl (fun h81 => ?_) (fun h81 => ?_)
        · have hres := (if_pos h81).symm.trans hres
          refine v_iload (pc2 := 101) C 5 dX10_idealOf_99 rfl rfl ?_
          refine v_istore_n (pc2 := 102) (lv2 := [(2, _), (9, _), (0, _), (1, _), (3, _), (5, _), (6, _), (8, _)]) C dX10_idealOf_101 (by decide) rfl rfl ?_
          refine v_lload (pc2 := 104) C 6 dX10_idealOf_102 rfl rfl ?_
          refine v_lstore_n (pc2 := 105) (lv2 := [(3, _), (2, _), (9, _), (0, _), (1, _), (5, _), (6, _), (8, _)]) C dX10_idealOf_104 (by decide) rfl rfl ?_
          refine v_iinc (pc2 := 108) (lv2 := [(5, _), (3, _), (2, _), (9, _), (0, _), (1, _), (6, _), (8, _)]) C 5 dX10_idealOf_105 rfl ki_1 (by decide) rfl rfl ?_
          refine v_goto (pc2 := 8) C dX10_idealOf_108 rfl ?_
          exact v_lv [4, 5, 2, 1, 0] rfl (ih _ _ _ h3 (by have := t_nlt h12 lit_12 rfl; rw [i_add1 (b := 13) (by omega) (by omega)]; omega) hres)
        · have hres := (if_neg h81).symm.trans hres
          refine v_lload (pc2 := 87) C 6 dX10_idealOf_85 rfl rfl ?_
          refine v_lload_n (pc2 := 88) C 4 dX10_idealOf_87 rfl rfl ?_
          refine v_lcne (pc2 := 105) (pc3 := 92) C dX10_idealOf_88 dX10_idealOf_89 rfl rfl (fun h88 => ?_) (fun h88 => ?_)
          · have hres := (if_neg h88).symm.trans hres
            refine v_iinc (pc2 := 108) (lv2 := [(5, _), (9, _), (0, _), (1, _), (2, _), (3, _), (6, _), (8, _)]) C 5 dX10_idealOf_105 rfl ki_1 (by decide) rfl rfl ?_
            refine v_goto (pc2 := 8) C dX10_idealOf_108 rfl ?_
            exact v_lv [2, 3, 4, 5, 0] rfl (ih _ _ _ h3 (by have := t_nlt h12 lit_12 rfl; rw [i_add1 (b := 13) (by omega) (by omega)]; omega) hres)
          · have hres := (if_pos h88).symm.trans hres
            refine v_iload (pc2 := 94) C 7 dX10_idealOf_92 rfl rfl ?_
            refine v_iload (pc2 := 96) C 0 dX10_idealOf_94 rfl rfl ?_
            refine v_icmpge (pc2 := 105) (pc3 := 99) C dX10_idealOf_96 rfl rfl (fun h96 => ?_) (fun h96 => ?_)
            · have hres := (if_pos h96).symm.trans hres
              refine v_iinc (pc2 := 108) (lv2 := [(5, _), (9, _), (0, _), (1, _), (2, _), (3, _), (6, _), (8, _)]) C 5 dX10_idealOf_105 rfl ki_1 (by decide) rfl rfl ?_
              refine v_goto (pc2 := 8) C dX10_idealOf_108 rfl ?_
              exact v_lv [2, 3, 4, 5, 0] rfl (ih _ _ _ h3 (by have := t_nlt h12 lit_12 rfl; rw [i_add1 (b := 13) (by omega) (by omega)]; omega) hres)
            · have hres := (if_neg h96).symm.trans hres
              refine v_iload (pc2 := 101) C 5 dX10_idealOf_99 rfl rfl ?_
              refine v_istore_n (pc2 := 102) (lv2 := [(2, _), (9, _), (0, _), (1, _), (3, _), (5, _), (6, _), (8, _)]) C dX10_idealOf_101 (by decide) rfl rfl ?_
              refine v_lload (pc2 := 104) C 6 dX10_idealOf_102 rfl rfl ?_
              refine v_lstore_n (pc2 := 105) (lv2 := [(3, _), (2, _), (9, _), (0, _), (1, _), (5, _), (6, _), (8, _)]) C dX10_idealOf_104 (by decide) rfl rfl ?_
              refine v_iinc (pc2 := 108) (lv2 := [(5, _), (3, _), (2, _), (9, _), (0, _), (1, _), (6, _), (8, _)]) C 5 dX10_idealOf_105 rfl ki_1 (by decide) rfl rfl ?_
              refine v_goto (pc2 := 8) C dX10_idealOf_108 rfl ?_
              exact v_lv [4, 5, 2, 1, 0] rfl (ih _ _ _ h3 (by have := t_nlt h12 lit_12 rfl; rw [i_add1 (b := 13) (by omega) (by omega)]; omega) hres)
def f10_idealOf (σ : St) (a1 : Int32) : Int32 :=
  (f10_idealOf_L σ a1 26 (0 : Int32) (0 : Int64) (-12 : Int32))
set_option maxHeartbeats 4000000 in
set_option maxRecDepth 100000 in
theorem bf10_idealOf {X : CX} {Λ : LY} (C : OK X Λ cX10_idealOf 10 RX10 1 22) {σ : St} {res : Int32} (E : EN X Λ (some .int) (some (.int res)) σ) (a1 : Int32) (h3 : vp_in a1 24) (hres : (f10_idealOf σ a1) = res) : VV X Λ 10 0 [(0, .ref (adr Λ 37)), (1, .int (a1))] [] σ := by
  unfold f10_idealOf at hres
  refine v_iconst (pc2 := 1) C dX10_idealOf_0 ki_0 rfl ?_
  refine v_istore_n (pc2 := 2) (lv2 := [(2, _), (0, _), (1, _)]) C dX10_idealOf_1 (by decide) rfl rfl ?_
  refine v_lconst (pc2 := 3) C dX10_idealOf_2 kl_0 rfl ?_
  refine v_lstore_n (pc2 := 4) (lv2 := [(3, _), (2, _), (0, _), (1, _)]) C dX10_idealOf_3 (by decide) rfl rfl ?_
  refine v_bipush (pc2 := 6) C dX10_idealOf_4 kb_m12 rfl ?_
  refine v_istore (pc2 := 8) (lv2 := [(5, _), (3, _), (2, _), (0, _), (1, _)]) C dX10_idealOf_6 (by decide) rfl rfl ?_
  exact v_lv [3, 4, 2, 1, 0] rfl (bf10_idealOf_L C E _ 26 _ _ _ h3 (by rw [lit_m12]; decide)  hres)
theorem mX10_idealOf (l : Launch) (Λ : LY) (σ : St) (a1 : Int32) (h3 : vp_in a1 24) : CT l Λ yX10_idealOf cX10_idealOf 10 (some .int) 1 22 [.ref (adr Λ 37), .int (a1)] σ (some (.int (f10_idealOf σ a1))) σ := by
  refine CT_of (by decide +kernel) (Nat.le_of_ble_eq_true rfl) ?_
  intro X hX C E
  obtain ⟨res, hres⟩ : ∃ r, (f10_idealOf σ a1) = r := ⟨_, rfl⟩
  rw [hres] at E
  exact bf10_idealOf C E _  h3 hres
