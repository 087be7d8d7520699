def f9_isWithin (a1 : Int32) (a2 : Int32) (a3 : Int32) : Int32 :=
  (if a1 < a2 then (0 : Int32) else (if a3 < a1 then (0 : Int32) else (1 : Int32)))
set_option maxHeartbeats 4000000 in
set_option maxRecDepth 100000 in
theorem bf9_isWithin {X : CX} {Λ : LY} (C : OK X Λ cX9_isWithin 3 RX9 0 0) {σ : St} {res : Int32} (E : EN X Λ (some .boolean) (some (.int res)) σ) (a1 : Int32) (a2 : Int32) (a3 : Int32)  (hres : (f9_isWithin a1 a2 a3) = res) : VV X Λ 3 0 [(0, .int (a1)), (1, .int (a2)), (2, .int (a3))] [] σ := by
  unfold f9_isWithin at hres
  refine v_iload_n (pc2 := 1) C 0 dX9_isWithin_0 rfl rfl ?_
  refine v_iload_n (pc2 := 2) C 1 dX9_isWithin_1 rfl rfl ?_
  refine v_icmplt (pc2 := 14) (pc3 := 5) C dX9_isWithin_2 rfl rfl (fun h2 => ?_) (fun h2 => ?_)
  · have hres := (if_pos h2).symm.trans hres
    refine v_iconst (pc2 := 15) C dX9_isWithin_14 ki_0 rfl ?_
    exact r_zP C E (Or.inl rfl) hres dX9_isWithin_15
  · have hres := (if_neg h2).symm.trans hres
    refine v_iload_n (pc2 := 6) C 0 dX9_isWithin_5 rfl rfl ?_
    refine v_iload_n (pc2 := 7) C 2 dX9_isWithin_6 rfl rfl ?_
    refine v_icmpgt (pc2 := 14) (pc3 := 10) C dX9_isWithin_7 rfl rfl (fun h7 => ?_) (fun h7 => ?_)
    · have hres := (if_pos h7).symm.trans hres
      refine v_iconst (pc2 := 15) C dX9_isWithin_14 ki_0 rfl ?_
      exact r_zP C E (Or.inl rfl) hres dX9_isWithin_15
    · have hres := (if_neg h7).symm.trans hres
      refine v_iconst (pc2 := 11) C dX9_isWithin_10 ki_1 rfl ?_
      refine v_goto (pc2 := 15) C dX9_isWithin_11 rfl ?_
      exact r_zP C E (Or.inr rfl) hres dX9_isWithin_15
theorem mX9_isWithin (l : Launch) (Λ : LY) (σ : St) (a1 : Int32) (a2 : Int32) (a3 : Int32)  : CT l Λ yX9_isWithin cX9_isWithin 3 (some .boolean) 0 0 [.int (a1), .int (a2), .int (a3)] σ (some (.int (f9_isWithin a1 a2 a3))) σ := by
  refine CT_of (by decide +kernel) (Nat.le_of_ble_eq_true rfl) ?_
  intro X hX C E
  obtain ⟨res, hres⟩ : ∃ r, (f9_isWithin a1 a2 a3) = r := ⟨_, rfl⟩
  rw [hres] at E
  exact bf9_isWithin C E _ _ _   hres
theorem zX9_isWithin (a1 : Int32) (a2 : Int32) (a3 : Int32) : (f9_isWithin a1 a2 a3) = 0 ∨ (f9_isWithin a1 a2 a3) = 1 := by
  unfold f9_isWithin; repeat' split
  all_goals first | exact Or.inl rfl | exact Or.inr rfl
def f9_isKind (a1 : Int32) : Int32 :=
  (f9_isWithin a1 (0 : Int32) (2 : Int32))
set_option maxHeartbeats 4000000 in
set_option maxRecDepth 100000 in
theorem bf9_isKind {X : CX} {Λ : LY} (C : OK X Λ cX9_isKind 1 RX9 1 22) {σ : St} {res : Int32} (E : EN X Λ (some .boolean) (some (.int res)) σ) (a1 : Int32)  (hres : (f9_isKind a1) = res) : VV X Λ 1 0 [(0, .int (a1))] [] σ := by
  unfold f9_isKind at hres
  refine v_iload_n (pc2 := 1) C 0 dX9_isKind_0 rfl rfl ?_
  refine v_iconst (pc2 := 2) C dX9_isKind_1 ki_0 rfl ?_
  refine v_iconst (pc2 := 3) C dX9_isKind_2 ki_2 rfl ?_
  refine v_cSi (pc2 := 6) C kc_X9_73 (mX9_isWithin (xl X) Λ _ _ _ _) (by decide) rfl rfl (Nat.le_of_ble_eq_true rfl) dX9_isKind_3 rfl ?_
  exact r_zP C E (zX9_isWithin a1 (0 : Int32) (2 : Int32)) hres dX9_isKind_6
theorem mX9_isKind (l : Launch) (Λ : LY) (σ : St) (a1 : Int32)  : CT l Λ yX9_isKind cX9_isKind 1 (some .boolean) 1 22 [.int (a1)] σ (some (.int (f9_isKind a1))) σ := by
  refine CT_of (by decide +kernel) (Nat.le_of_ble_eq_true rfl) ?_
  intro X hX C E
  obtain ⟨res, hres⟩ : ∃ r, (f9_isKind a1) = r := ⟨_, rfl⟩
  rw [hres] at E
  exact bf9_isKind C E _   hres
theorem zX9_isKind (a1 : Int32) : (f9_isKind a1) = 0 ∨ (f9_isKind a1) = 1 := by
  unfold f9_isKind; repeat' split
  all_goals first | exact Or.inl rfl | exact Or.inr rfl | exact (zX9_isWithin a1 (0 : Int32) (2 : Int32))
def f9_isStep (a1 : Int32) : Int32 :=
  (f9_isWithin a1 (-12 : Int32) (12 : Int32))
set_option maxHeartbeats 4000000 in
set_option maxRecDepth 100000 in
theorem bf9_isStep {X : CX} {Λ : LY} (C : OK X Λ cX9_isStep 1 RX9 1 22) {σ : St} {res : Int32} (E : EN X Λ (some .boolean) (some (.int res)) σ) (a1 : Int32)  (hres : (f9_isStep a1) = res) : VV X Λ 1 0 [(0, .int (a1))] [] σ := by
  unfold f9_isStep at hres
  refine v_iload_n (pc2 := 1) C 0 dX9_isStep_0 rfl rfl ?_
  refine v_bipush (pc2 := 3) C dX9_isStep_1 kb_m12 rfl ?_
  refine v_bipush (pc2 := 5) C dX9_isStep_3 kb_12 rfl ?_
  refine v_cSi (pc2 := 8) C kc_X9_73 (mX9_isWithin (xl X) Λ _ _ _ _) (by decide) rfl rfl (Nat.le_of_ble_eq_true rfl) dX9_isStep_5 rfl ?_
  exact r_zP C E (zX9_isWithin a1 (-12 : Int32) (12 : Int32)) hres dX9_isStep_8
theorem mX9_isStep (l : Launch) (Λ : LY) (σ : St) (a1 : Int32)  : CT l Λ yX9_isStep cX9_isStep 1 (some .boolean) 1 22 [.int (a1)] σ (some (.int (f9_isStep a1))) σ := by
  refine CT_of (by decide +kernel) (Nat.le_of_ble_eq_true rfl) ?_
  intro X hX C E
  obtain ⟨res, hres⟩ : ∃ r, (f9_isStep a1) = r := ⟨_, rfl⟩
  rw [hres] at E
  exact bf9_isStep C E _   hres
theorem zX9_isStep (a1 : Int32) : (f9_isStep a1) = 0 ∨ (f9_isStep a1) = 1 := by
  unfold f9_isStep; repeat' split
  all_goals first | exact Or.inl rfl | exact Or.inr rfl | exact (zX9_isWithin a1 (-12 : Int32) (12 : Int32))
def f9_isHour (a1 : Int32) : Int32 :=
  (f9_isWithin a1 (0 : Int32) (23 : Int32))
set_option maxHeartbeats 4000000 in
set_option maxRecDepth 100000 in
theorem bf9_isHour {X : CX} {Λ : LY} (C : OK X Λ cX9_isHour 1 RX9 1 22) {σ : St} {res : Int32} (E : EN X Λ (some .boolean) (some (.int res)) σ) (a1 : Int32)  (hres : (f9_isHour a1) = res) : VV X Λ 1 0 [(0, .int (a1))] [] σ := by
  unfold f9_isHour at hres
  refine v_iload_n (pc2 := 1) C 0 dX9_isHour_0 rfl rfl ?_
  refine v_iconst (pc2 := 2) C dX9_isHour_1 ki_0 rfl ?_
  refine v_bipush (pc2 := 4) C dX9_isHour_2 kb_23 rfl ?_
  refine v_cSi (pc2 := 7) C kc_X9_73 (mX9_isWithin (xl X) Λ _ _ _ _) (by decide) rfl rfl (Nat.le_of_ble_eq_true rfl) dX9_isHour_4 rfl ?_
  exact r_zP C E (zX9_isWithin a1 (0 : Int32) (23 : Int32)) hres dX9_isHour_7
theorem mX9_isHour (l : Launch) (Λ : LY) (σ : St) (a1 : Int32)  : CT l Λ yX9_isHour cX9_isHour 1 (some .boolean) 1 22 [.int (a1)] σ (some (.int (f9_isHour a1))) σ := by
  refine CT_of (by decide +kernel) (Nat.le_of_ble_eq_true rfl) ?_
  intro X hX C E
  obtain ⟨res, hres⟩ : ∃ r, (f9_isHour a1) = r := ⟨_, rfl⟩
  rw [hres] at E
  exact bf9_isHour C E _   hres
theorem zX9_isHour (a1 : Int32) : (f9_isHour a1) = 0 ∨ (f9_isHour a1) = 1 := by
  unfold f9_isHour; repeat' split
  all_goals first | exact Or.inl rfl | exact Or.inr rfl | exact (zX9_isWithin a1 (0 : Int32) (23 : Int32))
def f9_isString (a1 : Int32) : Int32 :=
  (f9_isWithin a1 (0 : Int32) (3 : Int32))
set_option maxHeartbeats 4000000 in
set_option maxRecDepth 100000 in
theorem bf9_isString {X : CX} {Λ : LY} (C : OK X Λ cX9_isString 1 RX9 1 22) {σ : St} {res : Int32} (E : EN X Λ (some .boolean) (some (.int res)) σ) (a1 : Int32)  (hres : (f9_isString a1) = res) : VV X Λ 1 0 [(0, .int (a1))] [] σ := by
  unfold f9_isString at hres
  refine v_iload_n (pc2 := 1) C 0 dX9_isString_0 rfl rfl ?_
  refine v_iconst (pc2 := 2) C dX9_isString_1 ki_0 rfl ?_
  refine v_iconst (pc2 := 3) C dX9_isString_2 ki_3 rfl ?_
  refine v_cSi (pc2 := 6) C kc_X9_73 (mX9_isWithin (xl X) Λ _ _ _ _) (by decide) rfl rfl (Nat.le_of_ble_eq_true rfl) dX9_isString_3 rfl ?_
  exact r_zP C E (zX9_isWithin a1 (0 : Int32) (3 : Int32)) hres dX9_isString_6
theorem mX9_isString (l : Launch) (Λ : LY) (σ : St) (a1 : Int32)  : CT l Λ yX9_isString cX9_isString 1 (some .boolean) 1 22 [.int (a1)] σ (some (.int (f9_isString a1))) σ := by
  refine CT_of (by decide +kernel) (Nat.le_of_ble_eq_true rfl) ?_
  intro X hX C E
  obtain ⟨res, hres⟩ : ∃ r, (f9_isString a1) = r := ⟨_, rfl⟩
  rw [hres] at E
  exact bf9_isString C E _   hres
theorem zX9_isString (a1 : Int32) : (f9_isString a1) = 0 ∨ (f9_isString a1) = 1 := by
  unfold f9_isString; repeat' split
  all_goals first | exact Or.inl rfl | exact Or.inr rfl | exact (zX9_isWithin a1 (0 : Int32) (3 : Int32))
def f9_isSunWay (a1 : Int32) (a2 : Int32) (a3 : Int32) : Int32 :=
  (if (f9_isHour a1) = (0 : Int32) then (0 : Int32) else (if (f9_isWithin a2 (-1000 : Int32) (1000 : Int32)) = (0 : Int32) then (0 : Int32) else (if (f9_isWithin a3 (0 : Int32) (1000 : Int32)) = (0 : Int32) then (0 : Int32) else (1 : Int32))))
set_option maxHeartbeats 4000000 in
set_option maxRecDepth 100000 in
theorem bf9_isSunWay {X : CX} {Λ : LY} (C : OK X Λ cX9_isSunWay 3 RX9 2 42) {σ : St} {res : Int32} (E : EN X Λ (some .boolean) (some (.int res)) σ) (a1 : Int32) (a2 : Int32) (a3 : Int32)  (hres : (f9_isSunWay a1 a2 a3) = res) : VV X Λ 3 0 [(0, .int (a1)), (1, .int (a2)), (2, .int (a3))] [] σ := by
  unfold f9_isSunWay at hres
  refine v_iload_n (pc2 := 1) C 0 dX9_isSunWay_0 rfl rfl ?_
  refine v_cSi (pc2 := 4) C kc_X9_151 (mX9_isHour (xl X) Λ _ _) (by decide) rfl rfl (Nat.le_of_ble_eq_true rfl) dX9_isSunWay_1 rfl ?_
  refine v_ifeq (pc2 := 35) (pc3 := 7) C dX9_isSunWay_4 rfl rfl (fun h4 => ?_) (fun h4 => ?_)
  · have hres := (if_pos h4).symm.trans hres
    refine v_iconst (pc2 := 36) C dX9_isSunWay_35 ki_0 rfl ?_
    exact r_zP C E (Or.inl rfl) hres dX9_isSunWay_36
  · have hres := (if_neg h4).symm.trans hres
    refine v_iload_n (pc2 := 8) C 1 dX9_isSunWay_7 rfl rfl ?_
    refine v_sipush (pc2 := 11) C dX9_isSunWay_8 ks_m1000 rfl ?_
    refine v_sipush (pc2 := 14) C dX9_isSunWay_11 ks_1000 rfl ?_
    refine v_cSi (pc2 := 17) C kc_X9_73 (mX9_isWithin (xl X) Λ _ _ _ _) (by decide) rfl rfl (Nat.le_of_ble_eq_true rfl) dX9_isSunWay_14 rfl ?_
    refine v_ifeq (pc2 := 35) (pc3 := 20) C dX9_isSunWay_17 rfl rfl (fun h17 => ?_) (fun h17 => ?_)
    · have hres := (if_pos h17).symm.trans hres
      refine v_iconst (pc2 := 36) C dX9_isSunWay_35 ki_0 rfl ?_
      exact r_zP C E (Or.inl rfl) hres dX9_isSunWay_36
    · have hres := (if_neg h17).symm.trans hres
      refine v_iload_n (pc2 := 21) C 2 dX9_isSunWay_20 rfl rfl ?_
      refine v_iconst (pc2 := 22) C dX9_isSunWay_21 ki_0 rfl ?_
      refine v_sipush (pc2 := 25) C dX9_isSunWay_22 ks_1000 rfl ?_
      refine v_cSi (pc2 := 28) C kc_X9_73 (mX9_isWithin (xl X) Λ _ _ _ _) (by decide) rfl rfl (Nat.le_of_ble_eq_true rfl) dX9_isSunWay_25 rfl ?_
      refine v_ifeq (pc2 := 35) (pc3 := 31) C dX9_isSunWay_28 rfl rfl (fun h28 => ?_) (fun h28 => ?_)
      · have hres := (if_pos h28).symm.trans hres
        refine v_iconst (pc2 := 36) C dX9_isSunWay_35 ki_0 rfl ?_
        exact r_zP C E (Or.inl rfl) hres dX9_isSunWay_36
      · have hres := (if_neg h28).symm.trans hres
        refine v_iconst (pc2 := 32) C dX9_isSunWay_31 ki_1 rfl ?_
        refine v_goto (pc2 := 36) C dX9_isSunWay_32 rfl ?_
        exact r_zP C E (Or.inr rfl) hres dX9_isSunWay_36
theorem mX9_isSunWay (l : Launch) (Λ : LY) (σ : St) (a1 : Int32) (a2 : Int32) (a3 : Int32)  : CT l Λ yX9_isSunWay cX9_isSunWay 3 (some .boolean) 2 42 [.int (a1), .int (a2), .int (a3)] σ (some (.int (f9_isSunWay a1 a2 a3))) σ := by
  refine CT_of (by decide +kernel) (Nat.le_of_ble_eq_true rfl) ?_
  intro X hX C E
  obtain ⟨res, hres⟩ : ∃ r, (f9_isSunWay a1 a2 a3) = r := ⟨_, rfl⟩
  rw [hres] at E
  exact bf9_isSunWay C E _ _ _   hres
theorem zX9_isSunWay (a1 : Int32) (a2 : Int32) (a3 : Int32) : (f9_isSunWay a1 a2 a3) = 0 ∨ (f9_isSunWay a1 a2 a3) = 1 := by
  unfold f9_isSunWay; repeat' split
  all_goals first | exact Or.inl rfl | exact Or.inr rfl
def f9_isWashPlan (a1 : Int32) (a2 : Int32) : Int32 :=
  (if (f9_isWithin a1 (1 : Int32) (100 : Int32)) = (0 : Int32) then (0 : Int32) else (if (f9_isWithin a2 (0 : Int32) (1000000 : Int32)) = (0 : Int32) then (0 : Int32) else (1 : Int32)))
set_option maxHeartbeats 4000000 in
set_option maxRecDepth 100000 in
theorem bf9_isWashPlan {X : CX} {Λ : LY} (C : OK X Λ cX9_isWashPlan 2 RX9 1 22) {σ : St} {res : Int32} (E : EN X Λ (some .boolean) (some (.int res)) σ) (a1 : Int32) (a2 : Int32)  (hres : (f9_isWashPlan a1 a2) = res) : VV X Λ 2 0 [(0, .int (a1)), (1, .int (a2))] [] σ := by
  unfold f9_isWashPlan at hres
  refine v_iload_n (pc2 := 1) C 0 dX9_isWashPlan_0 rfl rfl ?_
  refine v_iconst (pc2 := 2) C dX9_isWashPlan_1 ki_1 rfl ?_
  refine v_bipush (pc2 := 4) C dX9_isWashPlan_2 kb_100 rfl ?_
  refine v_cSi (pc2 := 7) C kc_X9_73 (mX9_isWithin (xl X) Λ _ _ _ _) (by decide) rfl rfl (Nat.le_of_ble_eq_true rfl) dX9_isWashPlan_4 rfl ?_
  refine v_ifeq (pc2 := 24) (pc3 := 10) C dX9_isWashPlan_7 rfl rfl (fun h7 => ?_) (fun h7 => ?_)
  · have hres := (if_pos h7).symm.trans hres
    refine v_iconst (pc2 := 25) C dX9_isWashPlan_24 ki_0 rfl ?_
    exact r_zP C E (Or.inl rfl) hres dX9_isWashPlan_25
  · have hres := (if_neg h7).symm.trans hres
    refine v_iload_n (pc2 := 11) C 1 dX9_isWashPlan_10 rfl rfl ?_
    refine v_iconst (pc2 := 12) C dX9_isWashPlan_11 ki_0 rfl ?_
    refine v_ldc (pc2 := 14) C lc_X9_200 dX9_isWashPlan_12 rfl ?_
    refine v_cSi (pc2 := 17) C kc_X9_73 (mX9_isWithin (xl X) Λ _ _ _ _) (by decide) rfl rfl (Nat.le_of_ble_eq_true rfl) dX9_isWashPlan_14 rfl ?_
    refine v_ifeq (pc2 := 24) (pc3 := 20) C dX9_isWashPlan_17 rfl rfl (fun h17 => ?_) (fun h17 => ?_)
    · have hres := (if_pos h17).symm.trans hres
      refine v_iconst (pc2 := 25) C dX9_isWashPlan_24 ki_0 rfl ?_
      exact r_zP C E (Or.inl rfl) hres dX9_isWashPlan_25
    · have hres := (if_neg h17).symm.trans hres
      refine v_iconst (pc2 := 21) C dX9_isWashPlan_20 ki_1 rfl ?_
      refine v_goto (pc2 := 25) C dX9_isWashPlan_21 rfl ?_
      exact r_zP C E (Or.inr rfl) hres dX9_isWashPlan_25
theorem mX9_isWashPlan (l : Launch) (Λ : LY) (σ : St) (a1 : Int32) (a2 : Int32)  : CT l Λ yX9_isWashPlan cX9_isWashPlan 2 (some .boolean) 1 22 [.int (a1), .int (a2)] σ (some (.int (f9_isWashPlan a1 a2))) σ := by
  refine CT_of (by decide +kernel) (Nat.le_of_ble_eq_true rfl) ?_
  intro X hX C E
  obtain ⟨res, hres⟩ : ∃ r, (f9_isWashPlan a1 a2) = r := ⟨_, rfl⟩
  rw [hres] at E
  exact bf9_isWashPlan C E _ _   hres
theorem zX9_isWashPlan (a1 : Int32) (a2 : Int32) : (f9_isWashPlan a1 a2) = 0 ∨ (f9_isWashPlan a1 a2) = 1 := by
  unfold f9_isWashPlan; repeat' split
  all_goals first | exact Or.inl rfl | exact Or.inr rfl
def f9_isRow (σ : St) (a1 : Int32) : Int32 :=
  (f9_isWithin a1 (0 : Int32) ((gI σ 2) - (1 : Int32)))
set_option maxHeartbeats 4000000 in
set_option maxRecDepth 100000 in
theorem bf9_isRow {X : CX} {Λ : LY} (C : OK X Λ cX9_isRow 2 RX9 1 22) {σ : St} {res : Int32} (E : EN X Λ (some .boolean) (some (.int res)) σ) (a1 : Int32)  (hres : (f9_isRow σ a1) = res) : VV X Λ 2 0 [(0, .ref (adr Λ 0)), (1, .int (a1))] [] σ := by
  unfold f9_isRow at hres
  refine v_iload_n (pc2 := 1) C 1 dX9_isRow_0 rfl rfl ?_
  refine v_iconst (pc2 := 2) C dX9_isRow_1 ki_0 rfl ?_
  refine v_aload_n (pc2 := 3) C 0 dX9_isRow_2 rfl rfl ?_
  refine vg_X9_field (pc2 := 6) C lf_X9_10 dX9_isRow_3 rfl ?_
  refine vg_X0_count (pc2 := 9) C lf_X9_89 dX9_isRow_6 rfl ?_
  refine v_iconst (pc2 := 10) C dX9_isRow_9 ki_1 rfl ?_
  refine v_isub (pc2 := 11) C dX9_isRow_10 rfl ?_
  refine v_cSi (pc2 := 14) C kc_X9_73 (mX9_isWithin (xl X) Λ _ _ _ _) (by decide) rfl rfl (Nat.le_of_ble_eq_true rfl) dX9_isRow_11 rfl ?_
  exact r_zP C E (zX9_isWithin a1 (0 : Int32) ((gI σ 2) - (1 : Int32))) hres dX9_isRow_14
theorem mX9_isRow (l : Launch) (Λ : LY) (σ : St) (a1 : Int32)  : CT l Λ yX9_isRow cX9_isRow 2 (some .boolean) 1 22 [.ref (adr Λ 0), .int (a1)] σ (some (.int (f9_isRow σ a1))) σ := by
  refine CT_of (by decide +kernel) (Nat.le_of_ble_eq_true rfl) ?_
  intro X hX C E
  obtain ⟨res, hres⟩ : ∃ r, (f9_isRow σ a1) = r := ⟨_, rfl⟩
  rw [hres] at E
  exact bf9_isRow C E _   hres
theorem zX9_isRow (σ : St) (a1 : Int32) : (f9_isRow σ a1) = 0 ∨ (f9_isRow σ a1) = 1 := by
  unfold f9_isRow; repeat' split
  all_goals first | exact Or.inl rfl | exact Or.inr rfl | exact (zX9_isWithin a1 (0 : Int32) ((gI σ 2) - (1 : Int32)))
def f9_answer (σ : St) (a1 : Int32) : Int32 × St :=
  (a1, (uA σ 0 (Int32.toNatClampNeg ((-1000000001 : Int32) - a1)) ((gA σ 0 (Int32.toNatClampNeg ((-1000000001 : Int32) - a1))) + (1 : Int32))))
set_option maxHeartbeats 4000000 in
set_option maxRecDepth 100000 in
theorem bf9_answer {X : CX} {Λ : LY} (C : OK X Λ cX9_answer 2 RX9 0 0) {res : Int32 × St} (E : EN X Λ (some .int) (some (.int res.1)) res.2) (σ : St) (a1 : Int32) (h1 : vp_in ((-1000000001 : Int32) - a1) 5) (hres : (f9_answer σ a1) = res) : VV X Λ 2 0 [(0, .ref (adr Λ 0)), (1, .int (a1))] [] σ := by
  unfold f9_answer at hres
  refine v_aload_n (pc2 := 1) C 0 dX9_answer_0 rfl rfl ?_
  refine vg_X9_answered (pc2 := 4) C lf_X9_58 dX9_answer_1 rfl ?_
  refine v_ldc (pc2 := 6) C lc_X9_80 dX9_answer_4 rfl ?_
  refine v_iload_n (pc2 := 7) C 1 dX9_answer_6 rfl rfl ?_
  refine v_isub (pc2 := 8) C dX9_answer_7 rfl ?_
  refine v_dup2 (pc2 := 9) C dX9_answer_8 rfl rfl rfl ?_
  refine al8 (pc2 := 10) C h1 dX9_answer_9 rfl ?_
  refine v_iconst (pc2 := 11) C dX9_answer_10 ki_1 rfl ?_
  refine v_iadd (pc2 := 12) C dX9_answer_11 rfl ?_
  refine as8 (pc2 := 13) C h1 dX9_answer_12 rfl ?_
  refine v_iload_n (pc2 := 14) C 1 dX9_answer_13 rfl rfl ?_
  exact r_iS C E hres dX9_answer_14
theorem mX9_answer (l : Launch) (Λ : LY) (σ : St) (a1 : Int32) (h1 : vp_in ((-1000000001 : Int32) - a1) 5) : CT l Λ yX9_answer cX9_answer 2 (some .int) 0 0 [.ref (adr Λ 0), .int (a1)] σ (some (.int (f9_answer σ a1).1)) (f9_answer σ a1).2 := by
  refine CT_of (by decide +kernel) (Nat.le_of_ble_eq_true rfl) ?_
  intro X hX C E
  obtain ⟨res, hres⟩ : ∃ r, (f9_answer σ a1) = r := ⟨_, rfl⟩
  rw [hres] at E
  exact bf9_answer C E _ _  h1 hres
def f3_begin (σ : St) (i0 : Nat) (a1 : Int32) (a2 : Int32) (a3 : Int32) (a4 : Int32) (a5 : Int32) : St :=
  (if a1 = (1 : Int32) then (uA (uA (uA (uA (uA (uA (uA σ 10 i0 a1) 11 i0 a2) 12 i0 a3) 13 i0 a4) 14 i0 (0 : Int32)) 15 i0 a5) 16 i0 (-1 : Int32)) else (uA (uA (uA (uA (uA (uA (uA σ 10 i0 a1) 11 i0 a2) 12 i0 a3) 13 i0 a4) 14 i0 (0 : Int32)) 15 i0 (0 : Int32)) 16 i0 (-1 : Int32)))
set_option maxHeartbeats 4000000 in
set_option maxRecDepth 100000 in
theorem bf3_begin {X : CX} {Λ : LY} (C : OK X Λ cX3_begin 6 RX3 0 0) {res : St} (E : EN X Λ none none res) (σ : St) (i0 : Nat) (a1 : Int32) (a2 : Int32) (a3 : Int32) (a4 : Int32) (a5 : Int32) (hi0 : i0 < 10) (hres : (f3_begin σ i0 a1 a2 a3 a4 a5) = res) : VV X Λ 6 0 [(0, .ref (adr Λ (27 + i0))), (1, .int (a1)), (2, .int (a2)), (3, .int (a3)), (4, .int (a4)), (5, .int (a5))] [] σ := by
  unfold f3_begin at hres
  refine v_aload_n (pc2 := 1) C 0 dX3_begin_0 rfl rfl ?_
  refine v_iload_n (pc2 := 2) C 1 dX3_begin_1 rfl rfl ?_
  refine vp_X3_kind (pc2 := 5) C hi0 lf_X3_15 dX3_begin_2 rfl ?_
  refine v_aload_n (pc2 := 6) C 0 dX3_begin_5 rfl rfl ?_
  refine v_iload_n (pc2 := 7) C 2 dX3_begin_6 rfl rfl ?_
  refine vp_X3_place (pc2 := 10) C hi0 lf_X3_18 dX3_begin_7 rfl ?_
  refine v_aload_n (pc2 := 11) C 0 dX3_begin_10 rfl rfl ?_
  refine v_iload_n (pc2 := 12) C 3 dX3_begin_11 rfl rfl ?_
  refine vp_X3_height (pc2 := 15) C hi0 lf_X3_21 dX3_begin_12 rfl ?_
  refine v_aload_n (pc2 := 16) C 0 dX3_begin_15 rfl rfl ?_
  refine v_iload (pc2 := 18) C 4 dX3_begin_16 rfl rfl ?_
  refine vp_X3_width (pc2 := 21) C hi0 lf_X3_24 dX3_begin_18 rfl ?_
  refine v_aload_n (pc2 := 22) C 0 dX3_begin_21 rfl rfl ?_
  refine v_iconst (pc2 := 23) C dX3_begin_22 ki_0 rfl ?_
  refine vp_X3_dirt (pc2 := 26) C hi0 lf_X3_27 dX3_begin_23 rfl ?_
  refine v_aload_n (pc2 := 27) C 0 dX3_begin_26 rfl rfl ?_
  refine v_iload_n (pc2 := 28) C 1 dX3_begin_27 rfl rfl ?_
  refine v_iconst (pc2 := 29) C dX3_begin_28 ki_1 rfl ?_
  refine v_icmpne (pc2 := 37) (pc3 := 32) C dX3_begin_29 rfl rfl (fun h29 => ?_) (fun h29 => ?_)
  · have hres := (if_neg h29).symm.trans hres
    refine v_iconst (pc2 := 38) C dX3_begin_37 ki_0 rfl ?_
    refine vp_X3_step (pc2 := 41) C hi0 lf_X3_30 dX3_begin_38 rfl ?_
    refine v_aload_n (pc2 := 42) C 0 dX3_begin_41 rfl rfl ?_
    refine v_iconst (pc2 := 43) C dX3_begin_42 ki_m1 rfl ?_
    refine vp_X3_inString (pc2 := 46) C hi0 lf_X3_9 dX3_begin_43 rfl ?_
    exact r_vS C E hres dX3_begin_46
  · have hres := (if_pos h29).symm.trans hres
    refine v_iload (pc2 := 34) C 5 dX3_begin_32 rfl rfl ?_
    refine v_goto (pc2 := 38) C dX3_begin_34 rfl ?_
    refine vp_X3_step (pc2 := 41) C hi0 lf_X3_30 dX3_begin_38 rfl ?_
    refine v_aload_n (pc2 := 42) C 0 dX3_begin_41 rfl rfl ?_
    refine v_iconst (pc2 := 43) C dX3_begin_42 ki_m1 rfl ?_
    refine vp_X3_inString (pc2 := 46) C hi0 lf_X3_9 dX3_begin_43 rfl ?_
    exact r_vS C E hres dX3_begin_46
theorem mX3_begin (l : Launch) (Λ : LY) (σ : St) (i0 : Nat) (hi0 : i0 < 10) (a1 : Int32) (a2 : Int32) (a3 : Int32) (a4 : Int32) (a5 : Int32)  : CT l Λ yX3_begin cX3_begin 6 none 0 0 [.ref (adr Λ (27 + i0)), .int (a1), .int (a2), .int (a3), .int (a4), .int (a5)] σ none (f3_begin σ i0 a1 a2 a3 a4 a5) := by
  refine CT_of (by decide +kernel) (Nat.le_of_ble_eq_true rfl) ?_
  intro X hX C E
  obtain ⟨res, hres⟩ : ∃ r, (f3_begin σ i0 a1 a2 a3 a4 a5) = r := ⟨_, rfl⟩
  rw [hres] at E
  exact bf3_begin C E _ _ _ _ _ _ _ hi0  hres
def f3_isOf (σ : St) (i0 : Nat) (a1 : Int32) : Int32 :=
  (if a1 = (0 : Int32) then (1 : Int32) else (if a1 = (gA σ 10 i0) then (1 : Int32) else (0 : Int32)))
set_option maxHeartbeats 4000000 in
set_option maxRecDepth 100000 in
theorem bf3_isOf {X : CX} {Λ : LY} (C : OK X Λ cX3_isOf 2 RX3 0 0) {σ : St} {res : Int32} (E : EN X Λ (some .boolean) (some (.int res)) σ) (i0 : Nat) (a1 : Int32) (hi0 : i0 < 10) (hres : (f3_isOf σ i0 a1) = res) : VV X Λ 2 0 [(0, .ref (adr Λ (27 + i0))), (1, .int (a1))] [] σ := by
  unfold f3_isOf at hres
  refine v_iload_n (pc2 := 1) C 1 dX3_isOf_0 rfl rfl ?_
  refine v_ifeq (pc2 := 12) (pc3 := 4) C dX3_isOf_1 rfl rfl (fun h1 => ?_) (fun h1 => ?_)
  · have hres := (if_pos h1).symm.trans hres
    refine v_iconst (pc2 := 13) C dX3_isOf_12 ki_1 rfl ?_
    refine v_goto (pc2 := 17) C dX3_isOf_13 rfl ?_
    exact r_zP C E (Or.inr rfl) hres dX3_isOf_17
  · have hres := (if_neg h1).symm.trans hres
    refine v_iload_n (pc2 := 5) C 1 dX3_isOf_4 rfl rfl ?_
    refine v_aload_n (pc2 := 6) C 0 dX3_isOf_5 rfl rfl ?_
    refine vg_X3_kind (pc2 := 9) C hi0 lf_X3_15 dX3_isOf_6 rfl ?_
    refine v_icmpne (pc2 := 16) (pc3 := 12) C dX3_isOf_9 rfl rfl (fun h9 => ?_) (fun h9 => ?_)
    · have hres := (if_neg h9).symm.trans hres
      refine v_iconst (pc2 := 17) C dX3_isOf_16 ki_0 rfl ?_
      exact r_zP C E (Or.inl rfl) hres dX3_isOf_17
    · have hres := (if_pos h9).symm.trans hres
      refine v_iconst (pc2 := 13) C dX3_isOf_12 ki_1 rfl ?_
      refine v_goto (pc2 := 17) C dX3_isOf_13 rfl ?_
      exact r_zP C E (Or.inr rfl) hres dX3_isOf_17
theorem mX3_isOf (l : Launch) (Λ : LY) (σ : St) (i0 : Nat) (hi0 : i0 < 10) (a1 : Int32)  : CT l Λ yX3_isOf cX3_isOf 2 (some .boolean) 0 0 [.ref (adr Λ (27 + i0)), .int (a1)] σ (some (.int (f3_isOf σ i0 a1))) σ := by
  refine CT_of (by decide +kernel) (Nat.le_of_ble_eq_true rfl) ?_
  intro X hX C E
  obtain ⟨res, hres⟩ : ∃ r, (f3_isOf σ i0 a1) = r := ⟨_, rfl⟩
  rw [hres] at E
  exact bf3_isOf C E _ _ hi0  hres
theorem zX3_isOf (σ : St) (i0 : Nat) (a1 : Int32) : (f3_isOf σ i0 a1) = 0 ∨ (f3_isOf σ i0 a1) = 1 := by
  unfold f3_isOf; repeat' split
  all_goals first | exact Or.inl rfl | exact Or.inr rfl
def f3_loseDust (σ : St) (i0 : Nat) : Int32 × St :=
  (if (gA σ 14 i0) ≤ (0 : Int32) then ((0 : Int32), (uA σ 14 i0 (0 : Int32))) else ((1 : Int32), (uA σ 14 i0 (0 : Int32))))
set_option maxHeartbeats 4000000 in
set_option maxRecDepth 100000 in
theorem bf3_loseDust {X : CX} {Λ : LY} (C : OK X Λ cX3_loseDust 2 RX3 0 0) {res : Int32 × St} (E : EN X Λ (some .boolean) (some (.int res.1)) res.2) (σ : St) (i0 : Nat) (hi0 : i0 < 10) (hres : (f3_loseDust σ i0) = res) : VV X Λ 2 0 [(0, .ref (adr Λ (27 + i0)))] [] σ := by
  unfold f3_loseDust at hres
  refine v_aload_n (pc2 := 1) C 0 dX3_loseDust_0 rfl rfl ?_
  refine vg_X3_dirt (pc2 := 4) C hi0 lf_X3_27 dX3_loseDust_1 rfl ?_
  refine v_ifle (pc2 := 11) (pc3 := 7) C dX3_loseDust_4 rfl rfl (fun h4 => ?_) (fun h4 => ?_)
  · have hres := (if_pos h4).symm.trans hres
    refine v_iconst (pc2 := 12) C dX3_loseDust_11 ki_0 rfl ?_
    refine v_istore_n (pc2 := 13) (lv2 := [(1, _), (0, _)]) C dX3_loseDust_12 (by decide) rfl rfl ?_
    refine v_aload_n (pc2 := 14) C 1 dX3_loseDust_13 rfl rfl ?_
    refine v_iconst (pc2 := 15) C dX3_loseDust_14 ki_0 rfl ?_
    refine vp_X3_dirt (pc2 := 18) C hi0 lf_X3_27 dX3_loseDust_15 rfl ?_
    refine v_iload_n (pc2 := 19) C 0 dX3_loseDust_18 rfl rfl ?_
    exact r_zS C E (Or.inl rfl) hres dX3_loseDust_19
  · have hres := (if_neg h4).symm.trans hres
    refine v_iconst (pc2 := 8) C dX3_loseDust_7 ki_1 rfl ?_
    refine v_goto (pc2 := 12) C dX3_loseDust_8 rfl ?_
    refine v_istore_n (pc2 := 13) (lv2 := [(1, _), (0, _)]) C dX3_loseDust_12 (by decide) rfl rfl ?_
    refine v_aload_n (pc2 := 14) C 1 dX3_loseDust_13 rfl rfl ?_
    refine v_iconst (pc2 := 15) C dX3_loseDust_14 ki_0 rfl ?_
    refine vp_X3_dirt (pc2 := 18) C hi0 lf_X3_27 dX3_loseDust_15 rfl ?_
    refine v_iload_n (pc2 := 19) C 0 dX3_loseDust_18 rfl rfl ?_
    exact r_zS C E (Or.inr rfl) hres dX3_loseDust_19
theorem mX3_loseDust (l : Launch) (Λ : LY) (σ : St) (i0 : Nat) (hi0 : i0 < 10)  : CT l Λ yX3_loseDust cX3_loseDust 2 (some .boolean) 0 0 [.ref (adr Λ (27 + i0))] σ (some (.int (f3_loseDust σ i0).1)) (f3_loseDust σ i0).2 := by
  refine CT_of (by decide +kernel) (Nat.le_of_ble_eq_true rfl) ?_
  intro X hX C E
  obtain ⟨res, hres⟩ : ∃ r, (f3_loseDust σ i0) = r := ⟨_, rfl⟩
  rw [hres] at E
  exact bf3_loseDust C E _ _ hi0  hres
theorem zX3_loseDust (σ : St) (i0 : Nat) : (f3_loseDust σ i0).1 = 0 ∨ (f3_loseDust σ i0).1 = 1 := by
  unfold f3_loseDust; repeat' split
  all_goals first | exact Or.inl rfl | exact Or.inr rfl
def f6_clear (σ : St) : St :=
  (uI σ 12 (0 : Int32))
set_option maxHeartbeats 4000000 in
set_option maxRecDepth 100000 in
theorem bf6_clear {X : CX} {Λ : LY} (C : OK X Λ cX6_clear 1 RX6 0 0) {res : St} (E : EN X Λ none none res) (σ : St)  (hres : (f6_clear σ) = res) : VV X Λ 1 0 [(0, .ref (adr Λ 7))] [] σ := by
  unfold f6_clear at hres
  refine v_aload_n (pc2 := 1) C 0 dX6_clear_0 rfl rfl ?_
  refine v_iconst (pc2 := 2) C dX6_clear_1 ki_0 rfl ?_
  refine vp_X6_size (pc2 := 5) C lf_X6_15 dX6_clear_2 rfl ?_
  exact r_vS C E hres dX6_clear_5
theorem mX6_clear (l : Launch) (Λ : LY) (σ : St)  : CT l Λ yX6_clear cX6_clear 1 none 0 0 [.ref (adr Λ 7)] σ none (f6_clear σ) := by
  refine CT_of (by decide +kernel) (Nat.le_of_ble_eq_true rfl) ?_
  intro X hX C E
  obtain ⟨res, hres⟩ : ∃ r, (f6_clear σ) = r := ⟨_, rfl⟩
  rw [hres] at E
  exact bf6_clear C E _   hres
def f6_append (σ : St) (a1 : Int32) : St :=
  (if (72 : Int32) ≤ (gI σ 12) then σ else (uI (uA σ 8 (Int32.toNatClampNeg (gI σ 12)) a1) 12 ((gI (uA σ 8 (Int32.toNatClampNeg (gI σ 12)) a1) 12) + (1 : Int32))))
set_option maxHeartbeats 4000000 in
set_option maxRecDepth 100000 in
theorem bf6_append {X : CX} {Λ : LY} (C : OK X Λ cX6_append 2 RX6 0 0) {res : St} (E : EN X Λ none none res) (σ : St) (a1 : Int32) (hs : Safe σ) (hres : (f6_append σ a1) = res) : VV X Λ 2 0 [(0, .ref (adr Λ 7)), (1, .int (a1))] [] σ := by
  unfold f6_append at hres
  have hq := hs.sz
  refine v_aload_n (pc2 := 1) C 0 dX6_append_0 rfl rfl ?_
  refine vg_X6_size (pc2 := 4) C lf_X6_15 dX6_append_1 rfl ?_
  refine v_bipush (pc2 := 6) C dX6_append_4 kb_72 rfl ?_
  refine v_icmpge (pc2 := 29) (pc3 := 9) C dX6_append_6 rfl rfl (fun h6 => ?_) (fun h6 => ?_)
  · have hres := (if_pos h6).symm.trans hres
    have t6 := t_le h6 lit_72 rfl
    exact r_vS C E hres dX6_append_29
  · have hres := (if_neg h6).symm.trans hres
    have t6 := t_nle h6 lit_72 rfl
    refine v_aload_n (pc2 := 10) C 0 dX6_append_9 rfl rfl ?_
    refine vg_X6_numbers (pc2 := 13) C lf_X6_9 dX6_append_10 rfl ?_
    refine v_aload_n (pc2 := 14) C 0 dX6_append_13 rfl rfl ?_
    refine vg_X6_size (pc2 := 17) C lf_X6_15 dX6_append_14 rfl ?_
    refine v_iload_n (pc2 := 18) C 1 dX6_append_17 rfl rfl ?_
    refine as22 (pc2 := 19) C (vin (by omega) (by omega)) dX6_append_18 rfl ?_
    refine v_aload_n (pc2 := 20) C 0 dX6_append_19 rfl rfl ?_
    refine v_dup (pc2 := 21) C dX6_append_20 rfl rfl ?_
    refine vg_X6_size (pc2 := 24) C lf_X6_15 dX6_append_21 rfl ?_
    refine v_iconst (pc2 := 25) C dX6_append_24 ki_1 rfl ?_
    refine v_iadd (pc2 := 26) C dX6_append_25 rfl ?_
    refine vp_X6_size (pc2 := 29) C lf_X6_15 dX6_append_26 rfl ?_
    exact r_vS C E hres dX6_append_29
theorem mX6_append (l : Launch) (Λ : LY) (σ : St) (a1 : Int32) (hs : Safe σ) : CT l Λ yX6_append cX6_append 2 none 0 0 [.ref (adr Λ 7), .int (a1)] σ none (f6_append σ a1) := by
  refine CT_of (by decide +kernel) (Nat.le_of_ble_eq_true rfl) ?_
  intro X hX C E
  obtain ⟨res, hres⟩ : ∃ r, (f6_append σ a1) = r := ⟨_, rfl⟩
  rw [hres] at E
  exact bf6_append C E _ _  hs hres
def f4_put (σ : St) (a1 : Int32) (a2 : Int32) (a3 : Int32) : St :=
  (uA (uA σ 2 (Int32.toNatClampNeg a1) a2) 3 (Int32.toNatClampNeg a1) a3)
set_option maxHeartbeats 4000000 in
set_option maxRecDepth 100000 in
theorem bf4_put {X : CX} {Λ : LY} (C : OK X Λ cX4_put 4 RX4 0 0) {res : St} (E : EN X Λ none none res) (σ : St) (a1 : Int32) (a2 : Int32) (a3 : Int32) (h1 : vp_in a1 24) (hres : (f4_put σ a1 a2 a3) = res) : VV X Λ 4 0 [(0, .ref (adr Λ 2)), (1, .int (a1)), (2, .int (a2)), (3, .int (a3))] [] σ := by
  unfold f4_put at hres
  refine v_aload_n (pc2 := 1) C 0 dX4_put_0 rfl rfl ?_
  refine vg_X4_x (pc2 := 4) C lf_X4_9 dX4_put_1 rfl ?_
  refine v_iload_n (pc2 := 5) C 1 dX4_put_4 rfl rfl ?_
  refine v_iload_n (pc2 := 6) C 2 dX4_put_5 rfl rfl ?_
  refine as14 (pc2 := 7) C h1 dX4_put_6 rfl ?_
  refine v_aload_n (pc2 := 8) C 0 dX4_put_7 rfl rfl ?_
  refine vg_X4_y (pc2 := 11) C lf_X4_15 dX4_put_8 rfl ?_
  refine v_iload_n (pc2 := 12) C 1 dX4_put_11 rfl rfl ?_
  refine v_iload_n (pc2 := 13) C 3 dX4_put_12 rfl rfl ?_
  refine as15 (pc2 := 14) C h1 dX4_put_13 rfl ?_
  exact r_vS C E hres dX4_put_14
theorem mX4_put (l : Launch) (Λ : LY) (σ : St) (a1 : Int32) (a2 : Int32) (a3 : Int32) (h1 : vp_in a1 24) : CT l Λ yX4_put cX4_put 4 none 0 0 [.ref (adr Λ 2), .int (a1), .int (a2), .int (a3)] σ none (f4_put σ a1 a2 a3) := by
  refine CT_of (by decide +kernel) (Nat.le_of_ble_eq_true rfl) ?_
  intro X hX C E
  obtain ⟨res, hres⟩ : ∃ r, (f4_put σ a1 a2 a3) = r := ⟨_, rfl⟩
  rw [hres] at E
  exact bf4_put C E _ _ _ _  h1 hres
def f4_isNight (σ : St) (a1 : Int32) : Int32 :=
  (if (gA σ 3 (Int32.toNatClampNeg a1)) = (0 : Int32) then (1 : Int32) else (0 : Int32))
set_option maxHeartbeats 4000000 in
set_option maxRecDepth 100000 in
theorem bf4_isNight {X : CX} {Λ : LY} (C : OK X Λ cX4_isNight 2 RX4 0 0) {σ : St} {res : Int32} (E : EN X Λ (some .boolean) (some (.int res)) σ) (a1 : Int32) (h1 : vp_in a1 24) (hres : (f4_isNight σ a1) = res) : VV X Λ 2 0 [(0, .ref (adr Λ 2)), (1, .int (a1))] [] σ := by
  unfold f4_isNight at hres
  refine v_aload_n (pc2 := 1) C 0 dX4_isNight_0 rfl rfl ?_
  refine vg_X4_y (pc2 := 4) C lf_X4_15 dX4_isNight_1 rfl ?_
  refine v_iload_n (pc2 := 5) C 1 dX4_isNight_4 rfl rfl ?_
  refine al15 (pc2 := 6) C h1 dX4_isNight_5 rfl ?_
  refine v_ifne (pc2 := 13) (pc3 := 9) C dX4_isNight_6 rfl rfl (fun h6 => ?_) (fun h6 => ?_)
  · have hres := (if_neg h6).symm.trans hres
    refine v_iconst (pc2 := 14) C dX4_isNight_13 ki_0 rfl ?_
    exact r_zP C E (Or.inl rfl) hres dX4_isNight_14
  · have hres := (if_pos h6).symm.trans hres
    refine v_iconst (pc2 := 10) C dX4_isNight_9 ki_1 rfl ?_
    refine v_goto (pc2 := 14) C dX4_isNight_10 rfl ?_
    exact r_zP C E (Or.inr rfl) hres dX4_isNight_14
theorem mX4_isNight (l : Launch) (Λ : LY) (σ : St) (a1 : Int32) (h1 : vp_in a1 24) : CT l Λ yX4_isNight cX4_isNight 2 (some .boolean) 0 0 [.ref (adr Λ 2), .int (a1)] σ (some (.int (f4_isNight σ a1))) σ := by
  refine CT_of (by decide +kernel) (Nat.le_of_ble_eq_true rfl) ?_
  intro X hX C E
  obtain ⟨res, hres⟩ : ∃ r, (f4_isNight σ a1) = r := ⟨_, rfl⟩
  rw [hres] at E
  exact bf4_isNight C E _  h1 hres
theorem zX4_isNight (σ : St) (a1 : Int32) : (f4_isNight σ a1) = 0 ∨ (f4_isNight σ a1) = 1 := by
  unfold f4_isNight; repeat' split
  all_goals first | exact Or.inl rfl | exact Or.inr rfl
def f0_firstAhead (σ : St) (a1 : Int32) : Int32 :=
  (if (gI σ 3) ≤ (0 : Int32) then (0 : Int32) else (a1 + (1 : Int32)))
set_option maxHeartbeats 4000000 in
set_option maxRecDepth 100000 in
theorem bf0_firstAhead {X : CX} {Λ : LY} (C : OK X Λ cX0_firstAhead 2 RX0 0 0) {σ : St} {res : Int32} (E : EN X Λ (some .int) (some (.int res)) σ) (a1 : Int32)  (hres : (f0_firstAhead σ a1) = res) : VV X Λ 2 0 [(0, .ref (adr Λ 1)), (1, .int (a1))] [] σ := by
  unfold f0_firstAhead at hres
  refine v_aload_n (pc2 := 1) C 0 dX0_firstAhead_0 rfl rfl ?_
  refine vg_X0_sunX (pc2 := 4) C lf_X0_39 dX0_firstAhead_1 rfl ?_
  refine v_ifle (pc2 := 13) (pc3 := 7) C dX0_firstAhead_4 rfl rfl (fun h4 => ?_) (fun h4 => ?_)
  · have hres := (if_pos h4).symm.trans hres
    refine v_iconst (pc2 := 14) C dX0_firstAhead_13 ki_0 rfl ?_
    exact r_iP C E hres dX0_firstAhead_14
  · have hres := (if_neg h4).symm.trans hres
    refine v_iload_n (pc2 := 8) C 1 dX0_firstAhead_7 rfl rfl ?_
    refine v_iconst (pc2 := 9) C dX0_firstAhead_8 ki_1 rfl ?_
    refine v_iadd (pc2 := 10) C dX0_firstAhead_9 rfl ?_
    refine v_goto (pc2 := 14) C dX0_firstAhead_10 rfl ?_
    exact r_iP C E hres dX0_firstAhead_14
theorem mX0_firstAhead (l : Launch) (Λ : LY) (σ : St) (a1 : Int32)  : CT l Λ yX0_firstAhead cX0_firstAhead 2 (some .int) 0 0 [.ref (adr Λ 1), .int (a1)] σ (some (.int (f0_firstAhead σ a1))) σ := by
  refine CT_of (by decide +kernel) (Nat.le_of_ble_eq_true rfl) ?_
  intro X hX C E
  obtain ⟨res, hres⟩ : ∃ r, (f0_firstAhead σ a1) = r := ⟨_, rfl⟩
  rw [hres] at E
  exact bf0_firstAhead C E _   hres
def f0_lastAhead (σ : St) (a1 : Int32) : Int32 :=
  (if (gI σ 3) = (0 : Int32) then (-1 : Int32) else (if (gI σ 3) ≤ (0 : Int32) then (a1 - (1 : Int32)) else ((gI σ 2) - (1 : Int32))))
set_option maxHeartbeats 4000000 in
set_option maxRecDepth 100000 in
theorem bf0_lastAhead {X : CX} {Λ : LY} (C : OK X Λ cX0_lastAhead 2 RX0 0 0) {σ : St} {res : Int32} (E : EN X Λ (some .int) (some (.int res)) σ) (a1 : Int32)  (hres : (f0_lastAhead σ a1) = res) : VV X Λ 2 0 [(0, .ref (adr Λ 1)), (1, .int (a1))] [] σ := by
  unfold f0_lastAhead at hres
  refine v_aload_n (pc2 := 1) C 0 dX0_lastAhead_0 rfl rfl ?_
  refine vg_X0_sunX (pc2 := 4) C lf_X0_39 dX0_lastAhead_1 rfl ?_
  refine v_ifne (pc2 := 9) (pc3 := 7) C dX0_lastAhead_4 rfl rfl (fun h4 => ?_) (fun h4 => ?_)
  · have hres := (if_neg h4).symm.trans hres
    refine v_aload_n (pc2 := 10) C 0 dX0_lastAhead_9 rfl rfl ?_
    refine vg_X0_sunX (pc2 := 13) C lf_X0_39 dX0_lastAhead_10 rfl ?_
    refine v_ifle (pc2 := 25) (pc3 := 16) C dX0_lastAhead_13 rfl rfl (fun h13 => ?_) (fun h13 => ?_)
    · have hres := (if_pos h13).symm.trans hres
      refine v_iload_n (pc2 := 26) C 1 dX0_lastAhead_25 rfl rfl ?_
      refine v_iconst (pc2 := 27) C dX0_lastAhead_26 ki_1 rfl ?_
      refine v_isub (pc2 := 28) C dX0_lastAhead_27 rfl ?_
      exact r_iP C E hres dX0_lastAhead_28
    · have hres := (if_neg h13).symm.trans hres
      refine v_aload_n (pc2 := 17) C 0 dX0_lastAhead_16 rfl rfl ?_
      refine vg_X0_count (pc2 := 20) C lf_X0_35 dX0_lastAhead_17 rfl ?_
      refine v_iconst (pc2 := 21) C dX0_lastAhead_20 ki_1 rfl ?_
      refine v_isub (pc2 := 22) C dX0_lastAhead_21 rfl ?_
      refine v_goto (pc2 := 28) C dX0_lastAhead_22 rfl ?_
      exact r_iP C E hres dX0_lastAhead_28
  · have hres := (if_pos h4).symm.trans hres
    refine v_iconst (pc2 := 8) C dX0_lastAhead_7 ki_m1 rfl ?_
    exact r_iP C E hres dX0_lastAhead_8
theorem mX0_lastAhead (l : Launch) (Λ : LY) (σ : St) (a1 : Int32)  : CT l Λ yX0_lastAhead cX0_lastAhead 2 (some .int) 0 0 [.ref (adr Λ 1), .int (a1)] σ (some (.int (f0_lastAhead σ a1))) σ := by
  refine CT_of (by decide +kernel) (Nat.le_of_ble_eq_true rfl) ?_
  intro X hX C E
  obtain ⟨res, hres⟩ : ∃ r, (f0_lastAhead σ a1) = r := ⟨_, rfl⟩
  rw [hres] at E
  exact bf0_lastAhead C E _   hres
def f0_isAboveLast (σ : St) (a1 : Int32) : Int32 :=
  (if (gI σ 2) ≤ (0 : Int32) then (1 : Int32) else (if a1 ≤ (gA σ 11 (Int32.toNatClampNeg ((gI σ 2) - (1 : Int32)))) then (0 : Int32) else (1 : Int32)))
set_option maxHeartbeats 4000000 in
set_option maxRecDepth 100000 in
theorem bf0_isAboveLast {X : CX} {Λ : LY} (C : OK X Λ cX0_isAboveLast 2 RX0 0 0) {σ : St} {res : Int32} (E : EN X Λ (some .boolean) (some (.int res)) σ) (a1 : Int32) (hs : Safe σ) (hres : (f0_isAboveLast σ a1) = res) : VV X Λ 2 0 [(0, .ref (adr Λ 1)), (1, .int (a1))] [] σ := by
  unfold f0_isAboveLast at hres
  have hq := hs.cnt
  refine v_aload_n (pc2 := 1) C 0 dX0_isAboveLast_0 rfl rfl ?_
  refine vg_X0_count (pc2 := 4) C lf_X0_35 dX0_isAboveLast_1 rfl ?_
  refine v_ifle (pc2 := 25) (pc3 := 7) C dX0_isAboveLast_4 rfl rfl (fun h4 => ?_) (fun h4 => ?_)
  · have hres := (if_pos h4).symm.trans hres
    have t4 := t_le h4 rfl lit_0
    refine v_iconst (pc2 := 26) C dX0_isAboveLast_25 ki_1 rfl ?_
    refine v_goto (pc2 := 30) C dX0_isAboveLast_26 rfl ?_
    exact r_zP C E (Or.inr rfl) hres dX0_isAboveLast_30
  · have hres := (if_neg h4).symm.trans hres
    have t4 := t_nle h4 rfl lit_0
    refine v_iload_n (pc2 := 8) C 1 dX0_isAboveLast_7 rfl rfl ?_
    refine v_aload_n (pc2 := 9) C 0 dX0_isAboveLast_8 rfl rfl ?_
    refine vg_X0_rows (pc2 := 12) C lf_X0_11 dX0_isAboveLast_9 rfl ?_
    refine v_aload_n (pc2 := 13) C 0 dX0_isAboveLast_12 rfl rfl ?_
    refine vg_X0_count (pc2 := 16) C lf_X0_35 dX0_isAboveLast_13 rfl ?_
    refine v_iconst (pc2 := 17) C dX0_isAboveLast_16 ki_1 rfl ?_
    refine v_isub (pc2 := 18) C dX0_isAboveLast_17 rfl ?_
    have in18 : vp_in ((gI σ 2) - (1 : Int32)) 10 := (vin (by rw [i_sub (by rw [lit_1]; omega) (by rw [lit_1]; omega), lit_1]; omega) (by rw [i_sub (by rw [lit_1]; omega) (by rw [lit_1]; omega), lit_1]; omega))
    refine v_aald (pc2 := 19) C in18 dX0_isAboveLast_18 rfl ?_
    refine vg_X3_place (pc2 := 22) C (vlt in18) lf_X0_43 dX0_isAboveLast_19 rfl ?_
    refine v_icmple (pc2 := 29) (pc3 := 25) C dX0_isAboveLast_22 rfl rfl (fun h22 => ?_) (fun h22 => ?_)
    · have hres := (if_pos h22).symm.trans hres
      have t22 := t_le h22 rfl rfl
      refine v_iconst (pc2 := 30) C dX0_isAboveLast_29 ki_0 rfl ?_
      exact r_zP C E (Or.inl rfl) hres dX0_isAboveLast_30
    · have hres := (if_neg h22).symm.trans hres
      have t22 := t_nle h22 rfl rfl
      refine v_iconst (pc2 := 26) C dX0_isAboveLast_25 ki_1 rfl ?_
      refine v_goto (pc2 := 30) C dX0_isAboveLast_26 rfl ?_
      exact r_zP C E (Or.inr rfl) hres dX0_isAboveLast_30
theorem mX0_isAboveLast (l : Launch) (Λ : LY) (σ : St) (a1 : Int32) (hs : Safe σ) : CT l Λ yX0_isAboveLast cX0_isAboveLast 2 (some .boolean) 0 0 [.ref (adr Λ 1), .int (a1)] σ (some (.int (f0_isAboveLast σ a1))) σ := by
  refine CT_of (by decide +kernel) (Nat.le_of_ble_eq_true rfl) ?_
  intro X hX C E
  obtain ⟨res, hres⟩ : ∃ r, (f0_isAboveLast σ a1) = r := ⟨_, rfl⟩
  rw [hres] at E
  exact bf0_isAboveLast C E _  hs hres
theorem zX0_isAboveLast (σ : St) (a1 : Int32) : (f0_isAboveLast σ a1) = 0 ∨ (f0_isAboveLast σ a1) = 1 := by
  unfold f0_isAboveLast; repeat' split
  all_goals first | exact Or.inl rfl | exact Or.inr rfl
def f2_stretch (σ : St) (a1 : Int32) : Int64 :=
  ((gB σ 5 (Int32.toNatClampNeg a1)) - (gB σ 4 (Int32.toNatClampNeg a1)))
set_option maxHeartbeats 4000000 in
set_option maxRecDepth 100000 in
theorem bf2_stretch {X : CX} {Λ : LY} (C : OK X Λ cX2_stretch 2 RX2 0 0) {σ : St} {res : Int64} (E : EN X Λ (some .long) (some (.long res)) σ) (a1 : Int32) (h1 : vp_in a1 10) (hres : (f2_stretch σ a1) = res) : VV X Λ 2 0 [(0, .ref (adr Λ 10)), (1, .int (a1))] [] σ := by
  unfold f2_stretch at hres
  refine v_aload_n (pc2 := 1) C 0 dX2_stretch_0 rfl rfl ?_
  refine vg_X2_end (pc2 := 4) C lf_X2_15 dX2_stretch_1 rfl ?_
  refine v_iload_n (pc2 := 5) C 1 dX2_stretch_4 rfl rfl ?_
  refine al24 (pc2 := 6) C h1 dX2_stretch_5 rfl ?_
  refine v_aload_n (pc2 := 7) C 0 dX2_stretch_6 rfl rfl ?_
  refine vg_X2_start (pc2 := 10) C lf_X2_9 dX2_stretch_7 rfl ?_
  refine v_iload_n (pc2 := 11) C 1 dX2_stretch_10 rfl rfl ?_
  refine al23 (pc2 := 12) C h1 dX2_stretch_11 rfl ?_
  refine v_lsub (pc2 := 13) C dX2_stretch_12 rfl ?_
  exact r_lP C E hres dX2_stretch_13
theorem mX2_stretch (l : Launch) (Λ : LY) (σ : St) (a1 : Int32) (h1 : vp_in a1 10) : CT l Λ yX2_stretch cX2_stretch 2 (some .long) 0 0 [.ref (adr Λ 10), .int (a1)] σ (some (.long (f2_stretch σ a1))) σ := by
  refine CT_of (by decide +kernel) (Nat.le_of_ble_eq_true rfl) ?_
  intro X hX C E
  obtain ⟨res, hres⟩ : ∃ r, (f2_stretch σ a1) = r := ⟨_, rfl⟩
  rw [hres] at E
  exact bf2_stretch C E _  h1 hres
def f2_isLit (σ : St) (a1 : Int32) : Int32 :=
  (if (gB σ 5 (Int32.toNatClampNeg a1)) ≤ (gB σ 4 (Int32.toNatClampNeg a1)) then (0 : Int32) else (1 : Int32))
set_option maxHeartbeats 4000000 in
set_option maxRecDepth 100000 in
theorem bf2_isLit {X : CX} {Λ : LY} (C : OK X Λ cX2_isLit 2 RX2 0 0) {σ : St} {res : Int32} (E : EN X Λ (some .boolean) (some (.int res)) σ) (a1 : Int32) (h1 : vp_in a1 10) (hres : (f2_isLit σ a1) = res) : VV X Λ 2 0 [(0, .ref (adr Λ 10)), (1, .int (a1))] [] σ := by
  unfold f2_isLit at hres
  refine v_aload_n (pc2 := 1) C 0 dX2_isLit_0 rfl rfl ?_
  refine vg_X2_end (pc2 := 4) C lf_X2_15 dX2_isLit_1 rfl ?_
  refine v_iload_n (pc2 := 5) C 1 dX2_isLit_4 rfl rfl ?_
  refine al24 (pc2 := 6) C h1 dX2_isLit_5 rfl ?_
  refine v_aload_n (pc2 := 7) C 0 dX2_isLit_6 rfl rfl ?_
  refine vg_X2_start (pc2 := 10) C lf_X2_9 dX2_isLit_7 rfl ?_
  refine v_iload_n (pc2 := 11) C 1 dX2_isLit_10 rfl rfl ?_
  refine al23 (pc2 := 12) C h1 dX2_isLit_11 rfl ?_
  refine v_lcle (pc2 := 20) (pc3 := 16) C dX2_isLit_12 dX2_isLit_13 rfl rfl (fun h12 => ?_) (fun h12 => ?_)
  · have hres := (if_pos h12).symm.trans hres
    refine v_iconst (pc2 := 21) C dX2_isLit_20 ki_0 rfl ?_
    exact r_zP C E (Or.inl rfl) hres dX2_isLit_21
  · have hres := (if_neg h12).symm.trans hres
    refine v_iconst (pc2 := 17) C dX2_isLit_16 ki_1 rfl ?_
    refine v_goto (pc2 := 21) C dX2_isLit_17 rfl ?_
    exact r_zP C E (Or.inr rfl) hres dX2_isLit_21
theorem mX2_isLit (l : Launch) (Λ : LY) (σ : St) (a1 : Int32) (h1 : vp_in a1 10) : CT l Λ yX2_isLit cX2_isLit 2 (some .boolean) 0 0 [.ref (adr Λ 10), .int (a1)] σ (some (.int (f2_isLit σ a1))) σ := by
  refine CT_of (by decide +kernel) (Nat.le_of_ble_eq_true rfl) ?_
  intro X hX C E
  obtain ⟨res, hres⟩ : ∃ r, (f2_isLit σ a1) = r := ⟨_, rfl⟩
  rw [hres] at E
  exact bf2_isLit C E _  h1 hres
theorem zX2_isLit (σ : St) (a1 : Int32) : (f2_isLit σ a1) = 0 ∨ (f2_isLit σ a1) = 1 := by
  unfold f2_isLit; repeat' split
  all_goals first | exact Or.inl rfl | exact Or.inr rfl
def f2_shadeStart (σ : St) (a1 : Int32) (a2 : Int32) : Int64 :=
  (if (if (gB σ 5 (Int32.toNatClampNeg a2)) < (gB σ 4 (Int32.toNatClampNeg a2)) then (gB σ 5 (Int32.toNatClampNeg a2)) else (gB σ 4 (Int32.toNatClampNeg a2))) < (gB σ 4 (Int32.toNatClampNeg a1)) then (gB σ 4 (Int32.toNatClampNeg a1)) else (if (gB σ 5 (Int32.toNatClampNeg a2)) < (gB σ 4 (Int32.toNatClampNeg a2)) then (gB σ 5 (Int32.toNatClampNeg a2)) else (gB σ 4 (Int32.toNatClampNeg a2))))
set_option maxHeartbeats 4000000 in
set_option maxRecDepth 100000 in
theorem bf2_shadeStart {X : CX} {Λ : LY} (C : OK X Λ cX2_shadeStart 3 RX2 1 23) {σ : St} {res : Int64} (E : EN X Λ (some .long) (some (.long res)) σ) (a1 : Int32) (a2 : Int32) (h1 : vp_in a1 10) (h2 : vp_in a2 10) (hres : (f2_shadeStart σ a1 a2) = res) : VV X Λ 3 0 [(0, .ref (adr Λ 10)), (1, .int (a1)), (2, .int (a2))] [] σ := by
  unfold f2_shadeStart at hres
  refine v_aload_n (pc2 := 1) C 0 dX2_shadeStart_0 rfl rfl ?_
  refine vg_X2_start (pc2 := 4) C lf_X2_9 dX2_shadeStart_1 rfl ?_
  refine v_iload_n (pc2 := 5) C 1 dX2_shadeStart_4 rfl rfl ?_
  refine al23 (pc2 := 6) C h1 dX2_shadeStart_5 rfl ?_
  refine v_aload_n (pc2 := 7) C 0 dX2_shadeStart_6 rfl rfl ?_
  refine vg_X2_start (pc2 := 10) C lf_X2_9 dX2_shadeStart_7 rfl ?_
  refine v_iload_n (pc2 := 11) C 2 dX2_shadeStart_10 rfl rfl ?_
  refine al23 (pc2 := 12) C h2 dX2_shadeStart_11 rfl ?_
  refine v_aload_n (pc2 := 13) C 0 dX2_shadeStart_12 rfl rfl ?_
  refine vg_X2_end (pc2 := 16) C lf_X2_15 dX2_shadeStart_13 rfl ?_
  refine v_iload_n (pc2 := 17) C 2 dX2_shadeStart_16 rfl rfl ?_
  refine al24 (pc2 := 18) C h2 dX2_shadeStart_17 rfl ?_
  refine v_lmin (pc2 := 21) C ml_X2_65 ms_lmin mi_Math mc_lmin (by decide) (Nat.le_of_ble_eq_true rfl) dX2_shadeStart_18 rfl ?_
  refine v_lmax (pc2 := 24) C ml_X2_69 ms_lmax mi_Math mc_lmax (by decide) (Nat.le_of_ble_eq_true rfl) dX2_shadeStart_21 rfl ?_
  exact r_lP C E hres dX2_shadeStart_24
theorem mX2_shadeStart (l : Launch) (Λ : LY) (σ : St) (a1 : Int32) (a2 : Int32) (h1 : vp_in a1 10) (h2 : vp_in a2 10) : CT l Λ yX2_shadeStart cX2_shadeStart 3 (some .long) 1 23 [.ref (adr Λ 10), .int (a1), .int (a2)] σ (some (.long (f2_shadeStart σ a1 a2))) σ := by
  refine CT_of (by decide +kernel) (Nat.le_of_ble_eq_true rfl) ?_
  intro X hX C E
  obtain ⟨res, hres⟩ : ∃ r, (f2_shadeStart σ a1 a2) = r := ⟨_, rfl⟩
  rw [hres] at E
  exact bf2_shadeStart C E _ _  h1 h2 hres
def f2_shadeEnd (σ : St) (a1 : Int32) (a2 : Int32) : Int64 :=
  (if (if (gB σ 5 (Int32.toNatClampNeg a2)) < (gB σ 4 (Int32.toNatClampNeg a2)) then (gB σ 4 (Int32.toNatClampNeg a2)) else (gB σ 5 (Int32.toNatClampNeg a2))) < (gB σ 5 (Int32.toNatClampNeg a1)) then (if (gB σ 5 (Int32.toNatClampNeg a2)) < (gB σ 4 (Int32.toNatClampNeg a2)) then (gB σ 4 (Int32.toNatClampNeg a2)) else (gB σ 5 (Int32.toNatClampNeg a2))) else (gB σ 5 (Int32.toNatClampNeg a1)))
set_option maxHeartbeats 4000000 in
set_option maxRecDepth 100000 in
theorem bf2_shadeEnd {X : CX} {Λ : LY} (C : OK X Λ cX2_shadeEnd 3 RX2 1 23) {σ : St} {res : Int64} (E : EN X Λ (some .long) (some (.long res)) σ) (a1 : Int32) (a2 : Int32) (h1 : vp_in a1 10) (h2 : vp_in a2 10) (hres : (f2_shadeEnd σ a1 a2) = res) : VV X Λ 3 0 [(0, .ref (adr Λ 10)), (1, .int (a1)), (2, .int (a2))] [] σ := by
  unfold f2_shadeEnd at hres
  refine v_aload_n (pc2 := 1) C 0 dX2_shadeEnd_0 rfl rfl ?_
  refine vg_X2_end (pc2 := 4) C lf_X2_15 dX2_shadeEnd_1 rfl ?_
  refine v_iload_n (pc2 := 5) C 1 dX2_shadeEnd_4 rfl rfl ?_
  refine al24 (pc2 := 6) C h1 dX2_shadeEnd_5 rfl ?_
  refine v_aload_n (pc2 := 7) C 0 dX2_shadeEnd_6 rfl rfl ?_
  refine vg_X2_start (pc2 := 10) C lf_X2_9 dX2_shadeEnd_7 rfl ?_
  refine v_iload_n (pc2 := 11) C 2 dX2_shadeEnd_10 rfl rfl ?_
  refine al23 (pc2 := 12) C h2 dX2_shadeEnd_11 rfl ?_
  refine v_aload_n (pc2 := 13) C 0 dX2_shadeEnd_12 rfl rfl ?_
  refine vg_X2_end (pc2 := 16) C lf_X2_15 dX2_shadeEnd_13 rfl ?_
  refine v_iload_n (pc2 := 17) C 2 dX2_shadeEnd_16 rfl rfl ?_
  refine al24 (pc2 := 18) C h2 dX2_shadeEnd_17 rfl ?_
  refine v_lmax (pc2 := 21) C ml_X2_69 ms_lmax mi_Math mc_lmax (by decide) (Nat.le_of_ble_eq_true rfl) dX2_shadeEnd_18 rfl ?_
  refine v_lmin (pc2 := 24) C ml_X2_65 ms_lmin mi_Math mc_lmin (by decide) (Nat.le_of_ble_eq_true rfl) dX2_shadeEnd_21 rfl ?_
  exact r_lP C E hres dX2_shadeEnd_24
theorem mX2_shadeEnd (l : Launch) (Λ : LY) (σ : St) (a1 : Int32) (a2 : Int32) (h1 : vp_in a1 10) (h2 : vp_in a2 10) : CT l Λ yX2_shadeEnd cX2_shadeEnd 3 (some .long) 1 23 [.ref (adr Λ 10), .int (a1), .int (a2)] σ (some (.long (f2_shadeEnd σ a1 a2))) σ := by
  refine CT_of (by decide +kernel) (Nat.le_of_ble_eq_true rfl) ?_
  intro X hX C E
  obtain ⟨res, hres⟩ : ∃ r, (f2_shadeEnd σ a1 a2) = r := ⟨_, rfl⟩
  rw [hres] at E
  exact bf2_shadeEnd C E _ _  h1 h2 hres
def f7_gain (σ : St) (i1 : Nat) (a2 : Int32) (a3 : Int32) : Int64 :=
  ((((Int32.toInt64 (gA σ 14 i1)) * (Int32.toInt64 (gA σ 13 i1))) * (Int32.toInt64 a2)) - (Int32.toInt64 a3))
set_option maxHeartbeats 4000000 in
set_option maxRecDepth 100000 in
theorem bf7_gain {X : CX} {Λ : LY} (C : OK X Λ cX7_gain 3 RX7 0 0) {σ : St} {res : Int64} (E : EN X Λ (some .long) (some (.long res)) σ) (i1 : Nat) (a2 : Int32) (a3 : Int32) (hi1 : i1 < 10) (hres : (f7_gain σ i1 a2 a3) = res) : VV X Λ 3 0 [(0, .ref (adr Λ (27 + i1))), (1, .int (a2)), (2, .int (a3))] [] σ := by
  unfold f7_gain at hres
  refine v_aload_n (pc2 := 1) C 0 dX7_gain_0 rfl rfl ?_
  refine vg_X3_dirt (pc2 := 4) C hi1 lf_X7_36 dX7_gain_1 rfl ?_
  refine v_i2l (pc2 := 5) C dX7_gain_4 rfl ?_
  refine v_aload_n (pc2 := 6) C 0 dX7_gain_5 rfl rfl ?_
  refine vg_X3_width (pc2 := 9) C hi1 lf_X7_41 dX7_gain_6 rfl ?_
  refine v_i2l (pc2 := 10) C dX7_gain_9 rfl ?_
  refine v_lmul (pc2 := 11) C dX7_gain_10 rfl ?_
  refine v_iload_n (pc2 := 12) C 1 dX7_gain_11 rfl rfl ?_
  refine v_i2l (pc2 := 13) C dX7_gain_12 rfl ?_
  refine v_lmul (pc2 := 14) C dX7_gain_13 rfl ?_
  refine v_iload_n (pc2 := 15) C 2 dX7_gain_14 rfl rfl ?_
  refine v_i2l (pc2 := 16) C dX7_gain_15 rfl ?_
  refine v_lsub (pc2 := 17) C dX7_gain_16 rfl ?_
  exact r_lP C E hres dX7_gain_17
theorem mX7_gain (l : Launch) (Λ : LY) (σ : St) (i1 : Nat) (hi1 : i1 < 10) (a2 : Int32) (a3 : Int32)  : CT l Λ yX7_gain cX7_gain 3 (some .long) 0 0 [.ref (adr Λ (27 + i1)), .int (a2), .int (a3)] σ (some (.long (f7_gain σ i1 a2 a3))) σ := by
  refine CT_of (by decide +kernel) (Nat.le_of_ble_eq_true rfl) ?_
  intro X hX C E
  obtain ⟨res, hres⟩ : ∃ r, (f7_gain σ i1 a2 a3) = r := ⟨_, rfl⟩
  rw [hres] at E
  exact bf7_gain C E _ _ _ hi1  hres
def f7_take (σ : St) (a1 : Int64) (a2 : Int32) : St :=
  (if (gJ σ 0) < a1 then (uI (uJ σ 0 a1) 11 a2) else (if a1 = (gJ σ 0) then (if (gI σ 11) ≤ a2 then σ else (uI (uJ σ 0 a1) 11 a2)) else σ))
set_option maxHeartbeats 4000000 in
set_option maxRecDepth 100000 in
theorem bf7_take {X : CX} {Λ : LY} (C : OK X Λ cX7_take 4 RX7 0 0) {res : St} (E : EN X Λ none none res) (σ : St) (a1 : Int64) (a2 : Int32)  (hres : (f7_take σ a1 a2) = res) : VV X Λ 4 0 [(0, .ref (adr Λ 6)), (1, .long (a1)), (3, .int (a2))] [] σ := by
  unfold f7_take at hres
  refine v_lload_n (pc2 := 1) C 1 dX7_take_0 rfl rfl ?_
  refine v_aload_n (pc2 := 2) C 0 dX7_take_1 rfl rfl ?_
  refine vg_X7_bestValue (pc2 := 5) C lf_X7_13 dX7_take_2 rfl ?_
  refine v_lcgt (pc2 := 26) (pc3 := 9) C dX7_take_5 dX7_take_6 rfl rfl (fun h5 => ?_) (fun h5 => ?_)
  · have hres := (if_pos h5).symm.trans hres
    refine v_aload_n (pc2 := 27) C 0 dX7_take_26 rfl rfl ?_
    refine v_lload_n (pc2 := 28) C 1 dX7_take_27 rfl rfl ?_
    refine vp_X7_bestValue (pc2 := 31) C lf_X7_13 dX7_take_28 rfl ?_
    refine v_aload_n (pc2 := 32) C 0 dX7_take_31 rfl rfl ?_
    refine v_iload_n (pc2 := 33) C 2 dX7_take_32 rfl rfl ?_
    refine vp_X7_bestSet (pc2 := 36) C lf_X7_7 dX7_take_33 rfl ?_
    exact r_vS C E hres dX7_take_36
  · have hres := (if_neg h5).symm.trans hres
    refine v_lload_n (pc2 := 10) C 1 dX7_take_9 rfl rfl ?_
    refine v_aload_n (pc2 := 11) C 0 dX7_take_10 rfl rfl ?_
    refine vg_X7_bestValue (pc2 := 14) C lf_X7_13 dX7_take_11 rfl ?_
    refine v_lcne (pc2 := 36) (pc3 := 18) C dX7_take_14 dX7_take_15 rfl rfl (fun h14 => ?_) (fun h14 => ?_)
    · have hres := (if_neg h14).symm.trans hres
      exact r_vS C E hres dX7_take_36
    · have hres := (if_pos h14).symm.trans hres
      refine v_iload_n (pc2 := 19) C 2 dX7_take_18 rfl rfl ?_
      refine v_aload_n (pc2 := 20) C 0 dX7_take_19 rfl rfl ?_
      refine vg_X7_bestSet (pc2 := 23) C lf_X7_7 dX7_take_20 rfl ?_
      refine v_icmpge (pc2 := 36) (pc3 := 26) C dX7_take_23 rfl rfl (fun h23 => ?_) (fun h23 => ?_)
      · have hres := (if_pos h23).symm.trans hres
        exact r_vS C E hres dX7_take_36
      · have hres := (if_neg h23).symm.trans hres
        refine v_aload_n (pc2 := 27) C 0 dX7_take_26 rfl rfl ?_
        refine v_lload_n (pc2 := 28) C 1 dX7_take_27 rfl rfl ?_
        refine vp_X7_bestValue (pc2 := 31) C lf_X7_13 dX7_take_28 rfl ?_
        refine v_aload_n (pc2 := 32) C 0 dX7_take_31 rfl rfl ?_
        refine v_iload_n (pc2 := 33) C 2 dX7_take_32 rfl rfl ?_
        refine vp_X7_bestSet (pc2 := 36) C lf_X7_7 dX7_take_33 rfl ?_
        exact r_vS C E hres dX7_take_36
theorem mX7_take (l : Launch) (Λ : LY) (σ : St) (a1 : Int64) (a2 : Int32)  : CT l Λ yX7_take cX7_take 4 none 0 0 [.ref (adr Λ 6), .long (a1), .int (a2)] σ none (f7_take σ a1 a2) := by
  refine CT_of (by decide +kernel) (Nat.le_of_ble_eq_true rfl) ?_
  intro X hX C E
  obtain ⟨res, hres⟩ : ∃ r, (f7_take σ a1 a2) = r := ⟨_, rfl⟩
  rw [hres] at E
  exact bf7_take C E _ _ _   hres
def f8_stateAt (σ : St) (a1 : Int32) : Int32 × St :=
  (if (gA σ 6 (Int32.toNatClampNeg a1)) = (-1 : Int32) then (if (gI (uI σ 6 (if (3 : Int32) < ((gI σ 6) + (1 : Int32)) then (3 : Int32) else ((gI σ 6) + (1 : Int32)))) 5) ≤ (gA σ 6 (Int32.toNatClampNeg a1)) then (if (gI (uI (uI σ 6 (if (3 : Int32) < ((gI σ 6) + (1 : Int32)) then (3 : Int32) else ((gI σ 6) + (1 : Int32)))) 7 (1 : Int32)) 7) = (0 : Int32) then (if (gA (uI (uI σ 6 (if (3 : Int32) < ((gI σ 6) + (1 : Int32)) then (3 : Int32) else ((gI σ 6) + (1 : Int32)))) 7 (1 : Int32)) 7 (Int32.toNatClampNeg a1)) = (0 : Int32) then ((0 : Int32), (uI (uI σ 6 (if (3 : Int32) < ((gI σ 6) + (1 : Int32)) then (3 : Int32) else ((gI σ 6) + (1 : Int32)))) 7 (1 : Int32))) else ((1 : Int32), (uI (uI σ 6 (if (3 : Int32) < ((gI σ 6) + (1 : Int32)) then (3 : Int32) else ((gI σ 6) + (1 : Int32)))) 7 (1 : Int32)))) else ((2 : Int32), (uI (uI σ 6 (if (3 : Int32) < ((gI σ 6) + (1 : Int32)) then (3 : Int32) else ((gI σ 6) + (1 : Int32)))) 7 (1 : Int32)))) else (if (gI (uI σ 6 (if (3 : Int32) < ((gI σ 6) + (1 : Int32)) then (3 : Int32) else ((gI σ 6) + (1 : Int32)))) 6) < (3 : Int32) then (if (gA σ 6 (Int32.toNatClampNeg a1)) = (-1 : Int32) then (if (gI (uI σ 6 (if (3 : Int32) < ((gI σ 6) + (1 : Int32)) then (3 : Int32) else ((gI σ 6) + (1 : Int32)))) 7) = (0 : Int32) then (if (gA (uI σ 6 (if (3 : Int32) < ((gI σ 6) + (1 : Int32)) then (3 : Int32) else ((gI σ 6) + (1 : Int32)))) 7 (Int32.toNatClampNeg a1)) = (0 : Int32) then ((0 : Int32), (uI σ 6 (if (3 : Int32) < ((gI σ 6) + (1 : Int32)) then (3 : Int32) else ((gI σ 6) + (1 : Int32))))) else ((1 : Int32), (uI σ 6 (if (3 : Int32) < ((gI σ 6) + (1 : Int32)) then (3 : Int32) else ((gI σ 6) + (1 : Int32)))))) else ((2 : Int32), (uI σ 6 (if (3 : Int32) < ((gI σ 6) + (1 : Int32)) then (3 : Int32) else ((gI σ 6) + (1 : Int32)))))) else (if ((gI (uI σ 6 (if (3 : Int32) < ((gI σ 6) + (1 : Int32)) then (3 : Int32) else ((gI σ 6) + (1 : Int32)))) 5) / (2 : Int32)) ≤ (gA σ 6 (Int32.toNatClampNeg a1)) then (if (gI (uI σ 6 (if (3 : Int32) < ((gI σ 6) + (1 : Int32)) then (3 : Int32) else ((gI σ 6) + (1 : Int32)))) 7) = (0 : Int32) then (if (gA (uI σ 6 (if (3 : Int32) < ((gI σ 6) + (1 : Int32)) then (3 : Int32) else ((gI σ 6) + (1 : Int32)))) 7 (Int32.toNatClampNeg a1)) = (0 : Int32) then ((0 : Int32), (uI σ 6 (if (3 : Int32) < ((gI σ 6) + (1 : Int32)) then (3 : Int32) else ((gI σ 6) + (1 : Int32))))) else ((1 : Int32), (uI σ 6 (if (3 : Int32) < ((gI σ 6) + (1 : Int32)) then (3 : Int32) else ((gI σ 6) + (1 : Int32)))))) else ((2 : Int32), (uI σ 6 (if (3 : Int32) < ((gI σ 6) + (1 : Int32)) then (3 : Int32) else ((gI σ 6) + (1 : Int32)))))) else (if (gI (uI (uI σ 6 (if (3 : Int32) < ((gI σ 6) + (1 : Int32)) then (3 : Int32) else ((gI σ 6) + (1 : Int32)))) 7 (0 : Int32)) 7) = (0 : Int32) then (if (gA (uI (uI σ 6 (if (3 : Int32) < ((gI σ 6) + (1 : Int32)) then (3 : Int32) else ((gI σ 6) + (1 : Int32)))) 7 (0 : Int32)) 7 (Int32.toNatClampNeg a1)) = (0 : Int32) then ((0 : Int32), (uI (uI σ 6 (if (3 : Int32) < ((gI σ 6) + (1 : Int32)) then (3 : Int32) else ((gI σ 6) + (1 : Int32)))) 7 (0 : Int32))) else ((1 : Int32), (uI (uI σ 6 (if (3 : Int32) < ((gI σ 6) + (1 : Int32)) then (3 : Int32) else ((gI σ 6) + (1 : Int32)))) 7 (0 : Int32)))) else ((2 : Int32), (uI (uI σ 6 (if (3 : Int32) < ((gI σ 6) + (1 : Int32)) then (3 : Int32) else ((gI σ 6) + (1 : Int32)))) 7 (0 : Int32)))))) else (if (gI (uI (uI σ 6 (if (3 : Int32) < ((gI σ 6) + (1 : Int32)) then (3 : Int32) else ((gI σ 6) + (1 : Int32)))) 7 (1 : Int32)) 7) = (0 : Int32) then (if (gA (uI (uI σ 6 (if (3 : Int32) < ((gI σ 6) + (1 : Int32)) then (3 : Int32) else ((gI σ 6) + (1 : Int32)))) 7 (1 : Int32)) 7 (Int32.toNatClampNeg a1)) = (0 : Int32) then ((0 : Int32), (uI (uI σ 6 (if (3 : Int32) < ((gI σ 6) + (1 : Int32)) then (3 : Int32) else ((gI σ 6) + (1 : Int32)))) 7 (1 : Int32))) else ((1 : Int32), (uI (uI σ 6 (if (3 : Int32) < ((gI σ 6) + (1 : Int32)) then (3 : Int32) else ((gI σ 6) + (1 : Int32)))) 7 (1 : Int32)))) else ((2 : Int32), (uI (uI σ 6 (if (3 : Int32) < ((gI σ 6) + (1 : Int32)) then (3 : Int32) else ((gI σ 6) + (1 : Int32)))) 7 (1 : Int32)))))) else (if (gI (uI σ 6 (0 : Int32)) 5) ≤ (gA σ 6 (Int32.toNatClampNeg a1)) then (if (gI (uI (uI σ 6 (0 : Int32)) 7 (1 : Int32)) 7) = (0 : Int32) then (if (gA (uI (uI σ 6 (0 : Int32)) 7 (1 : Int32)) 7 (Int32.toNatClampNeg a1)) = (0 : Int32) then ((0 : Int32), (uI (uI σ 6 (0 : Int32)) 7 (1 : Int32))) else ((1 : Int32), (uI (uI σ 6 (0 : Int32)) 7 (1 : Int32)))) else ((2 : Int32), (uI (uI σ 6 (0 : Int32)) 7 (1 : Int32)))) else (if (gI (uI σ 6 (0 : Int32)) 6) < (3 : Int32) then (if (gA σ 6 (Int32.toNatClampNeg a1)) = (-1 : Int32) then (if (gI (uI σ 6 (0 : Int32)) 7) = (0 : Int32) then (if (gA (uI σ 6 (0 : Int32)) 7 (Int32.toNatClampNeg a1)) = (0 : Int32) then ((0 : Int32), (uI σ 6 (0 : Int32))) else ((1 : Int32), (uI σ 6 (0 : Int32)))) else ((2 : Int32), (uI σ 6 (0 : Int32)))) else (if ((gI (uI σ 6 (0 : Int32)) 5) / (2 : Int32)) ≤ (gA σ 6 (Int32.toNatClampNeg a1)) then (if (gI (uI σ 6 (0 : Int32)) 7) = (0 : Int32) then (if (gA (uI σ 6 (0 : Int32)) 7 (Int32.toNatClampNeg a1)) = (0 : Int32) then ((0 : Int32), (uI σ 6 (0 : Int32))) else ((1 : Int32), (uI σ 6 (0 : Int32)))) else ((2 : Int32), (uI σ 6 (0 : Int32)))) else (if (gI (uI (uI σ 6 (0 : Int32)) 7 (0 : Int32)) 7) = (0 : Int32) then (if (gA (uI (uI σ 6 (0 : Int32)) 7 (0 : Int32)) 7 (Int32.toNatClampNeg a1)) = (0 : Int32) then ((0 : Int32), (uI (uI σ 6 (0 : Int32)) 7 (0 : Int32))) else ((1 : Int32), (uI (uI σ 6 (0 : Int32)) 7 (0 : Int32)))) else ((2 : Int32), (uI (uI σ 6 (0 : Int32)) 7 (0 : Int32)))))) else (if (gI (uI (uI σ 6 (0 : Int32)) 7 (1 : Int32)) 7) = (0 : Int32) then (if (gA (uI (uI σ 6 (0 : Int32)) 7 (1 : Int32)) 7 (Int32.toNatClampNeg a1)) = (0 : Int32) then ((0 : Int32), (uI (uI σ 6 (0 : Int32)) 7 (1 : Int32))) else ((1 : Int32), (uI (uI σ 6 (0 : Int32)) 7 (1 : Int32)))) else ((2 : Int32), (uI (uI σ 6 (0 : Int32)) 7 (1 : Int32)))))))
set_option maxHeartbeats 4000000 in
set_option maxRecDepth 100000 in
theorem bf8_stateAt {X : CX} {Λ : LY} (C : OK X Λ cX8_stateAt 3 RX8 1 23) {res : Int32 × St} (E : EN X Λ (some .int) (some (.int res.1)) res.2) (σ : St) (a1 : Int32) (h1 : vp_in a1 24) (hres : (f8_stateAt σ a1) = res) : VV X Λ 3 0 [(0, .ref (adr Λ 4)), (1, .int (a1))] [] σ := by
  unfold f8_stateAt at hres
  refine v_aload_n (pc2 := 1) C 0 dX8_stateAt_0 rfl rfl ?_
  refine vg_X8_readings (pc2 := 4) C lf_X8_9 dX8_stateAt_1 rfl ?_
  refine v_iload_n (pc2 := 5) C 1 dX8_stateAt_4 rfl rfl ?_
  refine al18 (pc2 := 6) C h1 dX8_stateAt_5 rfl ?_
  refine v_istore_n (pc2 := 7) (lv2 := [(2, _), (0, _), (1, _)]) C dX8_stateAt_6 (by decide) rfl rfl ?_
  refine v_aload_n (pc2 := 8) C 1 dX8_stateAt_7 rfl rfl ?_
  refine v_iload_n (pc2 := 9) C 0 dX8_stateAt_8 rfl rfl ?_
  refine v_iconst (pc2 := 10) C dX8_stateAt_9 ki_m1 rfl ?_
  refine v_icmpne (pc2 := 26) (pc3 := 13) C dX8_stateAt_10 rfl rfl (fun h10 => ?_) (fun h10 => ?_)
  · have hres := (if_neg h10).symm.trans hres
    refine v_iconst (pc2 := 27) C dX8_stateAt_26 ki_0 rfl ?_
    refine vp_X8_lostInARow (pc2 := 30) C lf_X8_23 dX8_stateAt_27 rfl ?_
    refine v_iload_n (pc2 := 31) C 0 dX8_stateAt_30 rfl rfl ?_
    refine v_aload_n (pc2 := 32) C 1 dX8_stateAt_31 rfl rfl ?_
    refine vg_X8_stowAt (pc2 := 35) C lf_X8_19 dX8_stateAt_32 rfl ?_
    refine v_icmpge (pc2 := 46) (pc3 := 38) C dX8_stateAt_35 rfl rfl (fun h35 => ?_) (fun h35 => ?_)
    · have hres := (if_pos h35).symm.trans hres
      refine v_aload_n (pc2 := 47) C 1 dX8_stateAt_46 rfl rfl ?_
      refine v_iconst (pc2 := 48) C dX8_stateAt_47 ki_1 rfl ?_
      refine vp_X8_isStowed (pc2 := 51) C (Or.inr rfl) lf_X8_26 dX8_stateAt_48 rfl ?_
      refine v_goto (pc2 := 74) C dX8_stateAt_51 rfl ?_
      refine v_aload_n (pc2 := 75) C 1 dX8_stateAt_74 rfl rfl ?_
      refine vg_X8_isStowed (pc2 := 78) C lf_X8_26 dX8_stateAt_75 rfl ?_
      refine v_ifeq (pc2 := 83) (pc3 := 81) C dX8_stateAt_78 rfl rfl (fun h78 => ?_) (fun h78 => ?_)
      · have hres := (if_pos h78).symm.trans hres
        refine v_aload_n (pc2 := 84) C 1 dX8_stateAt_83 rfl rfl ?_
        refine vg_X8_cleans (pc2 := 87) C lf_X8_15 dX8_stateAt_84 rfl ?_
        refine v_iload_n (pc2 := 88) C 2 dX8_stateAt_87 rfl rfl ?_
        refine al19 (pc2 := 89) C h1 dX8_stateAt_88 rfl ?_
        refine v_ifeq (pc2 := 96) (pc3 := 92) C dX8_stateAt_89 rfl rfl (fun h89 => ?_) (fun h89 => ?_)
        · have hres := (if_pos h89).symm.trans hres
          refine v_iconst (pc2 := 97) C dX8_stateAt_96 ki_0 rfl ?_
          exact r_iS C E hres dX8_stateAt_97
        · have hres := (if_neg h89).symm.trans hres
          refine v_iconst (pc2 := 93) C dX8_stateAt_92 ki_1 rfl ?_
          refine v_goto (pc2 := 97) C dX8_stateAt_93 rfl ?_
          exact r_iS C E hres dX8_stateAt_97
      · have hres := (if_neg h78).symm.trans hres
        refine v_iconst (pc2 := 82) C dX8_stateAt_81 ki_2 rfl ?_
        exact r_iS C E hres dX8_stateAt_82
    · have hres := (if_neg h35).symm.trans hres
      refine v_aload_n (pc2 := 39) C 1 dX8_stateAt_38 rfl rfl ?_
      refine vg_X8_lostInARow (pc2 := 42) C lf_X8_23 dX8_stateAt_39 rfl ?_
      refine v_iconst (pc2 := 43) C dX8_stateAt_42 ki_3 rfl ?_
      refine v_icmplt (pc2 := 54) (pc3 := 46) C dX8_stateAt_43 rfl rfl (fun h43 => ?_) (fun h43 => ?_)
      · have hres := (if_pos h43).symm.trans hres
        refine v_iload_n (pc2 := 55) C 0 dX8_stateAt_54 rfl rfl ?_
        refine v_iconst (pc2 := 56) C dX8_stateAt_55 ki_m1 rfl ?_
        refine v_icmpeq (pc2 := 74) (pc3 := 59) C dX8_stateAt_56 rfl rfl (fun h56 => ?_) (fun h56 => ?_)
        · have hres := (if_pos h56).symm.trans hres
          refine v_aload_n (pc2 := 75) C 1 dX8_stateAt_74 rfl rfl ?_
          refine vg_X8_isStowed (pc2 := 78) C lf_X8_26 dX8_stateAt_75 rfl ?_
          refine v_ifeq (pc2 := 83) (pc3 := 81) C dX8_stateAt_78 rfl rfl (fun h78 => ?_) (fun h78 => ?_)
          · have hres := (if_pos h78).symm.trans hres
            refine v_aload_n (pc2 := 84) C 1 dX8_stateAt_83 rfl rfl ?_
            refine vg_X8_cleans (pc2 := 87) C lf_X8_15 dX8_stateAt_84 rfl ?_
            refine v_iload_n (pc2 := 88) C 2 dX8_stateAt_87 rfl rfl ?_
            refine al19 (pc2 := 89) C h1 dX8_stateAt_88 rfl ?_
            refine v_ifeq (pc2 := 96) (pc3 := 92) C dX8_stateAt_89 rfl rfl (fun h89 => ?_) (fun h89 => ?_)
            · have hres := (if_pos h89).symm.trans hres
              refine v_iconst (pc2 := 97) C dX8_stateAt_96 ki_0 rfl ?_
              exact r_iS C E hres dX8_stateAt_97
            · have hres := (if_neg h89).symm.trans hres
              refine v_iconst (pc2 := 93) C dX8_stateAt_92 ki_1 rfl ?_
              refine v_goto (pc2 := 97) C dX8_stateAt_93 rfl ?_
              exact r_iS C E hres dX8_stateAt_97
          · have hres := (if_neg h78).symm.trans hres
            refine v_iconst (pc2 := 82) C dX8_stateAt_81 ki_2 rfl ?_
            exact r_iS C E hres dX8_stateAt_82
        · have hres := (if_neg h56).symm.trans hres
          refine v_iload_n (pc2 := 60) C 0 dX8_stateAt_59 rfl rfl ?_
          refine v_aload_n (pc2 := 61) C 1 dX8_stateAt_60 rfl rfl ?_
          refine vg_X8_stowAt (pc2 := 64) C lf_X8_19 dX8_stateAt_61 rfl ?_
          refine v_iconst (pc2 := 65) C dX8_stateAt_64 ki_2 rfl ?_
          refine v_idiv (pc2 := 66) C dX8_stateAt_65 (by decide) rfl ?_
          refine v_icmpge (pc2 := 74) (pc3 := 69) C dX8_stateAt_66 rfl rfl (fun h66 => ?_) (fun h66 => ?_)
          · have hres := (if_pos h66).symm.trans hres
            refine v_aload_n (pc2 := 75) C 1 dX8_stateAt_74 rfl rfl ?_
            refine vg_X8_isStowed (pc2 := 78) C lf_X8_26 dX8_stateAt_75 rfl ?_
            refine v_ifeq (pc2 := 83) (pc3 := 81) C dX8_stateAt_78 rfl rfl (fun h78 => ?_) (fun h78 => ?_)
            · have hres := (if_pos h78).symm.trans hres
              refine v_aload_n (pc2 := 84) C 1 dX8_stateAt_83 rfl rfl ?_
              refine vg_X8_cleans (pc2 := 87) C lf_X8_15 dX8_stateAt_84 rfl ?_
              refine v_iload_n (pc2 := 88) C 2 dX8_stateAt_87 rfl rfl ?_
              refine al19 (pc2 := 89) C h1 dX8_stateAt_88 rfl ?_
              refine v_ifeq (pc2 := 96) (pc3 := 92) C dX8_stateAt_89 rfl rfl (fun h89 => ?_) (fun h89 => ?_)
              · have hres := (if_pos h89).symm.trans hres
                refine v_iconst (pc2 := 97) C dX8_stateAt_96 ki_0 rfl ?_
                exact r_iS C E hres dX8_stateAt_97
              · have hres := (if_neg h89).symm.trans hres
                refine v_iconst (pc2 := 93) C dX8_stateAt_92 ki_1 rfl ?_
                refine v_goto (pc2 := 97) C dX8_stateAt_93 rfl ?_
                exact r_iS C E hres dX8_stateAt_97
            · have hres := (if_neg h78).symm.trans hres
              refine v_iconst (pc2 := 82) C dX8_stateAt_81 ki_2 rfl ?_
              exact r_iS C E hres dX8_stateAt_82
          · have hres := (if_neg h66).symm.trans hres
            refine v_aload_n (pc2 := 70) C 1 dX8_stateAt_69 rfl rfl ?_
            refine v_iconst (pc2 := 71) C dX8_stateAt_70 ki_0 rfl ?_
            refine vp_X8_isStowed (pc2 := 74) C (Or.inl rfl) lf_X8_26 dX8_stateAt_71 rfl ?_
            refine v_aload_n (pc2 := 75) C 1 dX8_stateAt_74 rfl rfl ?_
            refine vg_X8_isStowed (pc2 := 78) C lf_X8_26 dX8_stateAt_75 rfl ?_
            refine v_ifeq (pc2 := 83) (pc3 := 81) C dX8_stateAt_78 rfl rfl (fun h78 => ?_) (fun h78 => ?_)
            · have hres := (if_pos h78).symm.trans hres
              refine v_aload_n (pc2 := 84) C 1 dX8_stateAt_83 rfl rfl ?_
              refine vg_X8_cleans (pc2 := 87) C lf_X8_15 dX8_stateAt_84 rfl ?_
              refine v_iload_n (pc2 := 88) C 2 dX8_stateAt_87 rfl rfl ?_
              refine al19 (pc2 := 89) C h1 dX8_stateAt_88 rfl ?_
              refine v_ifeq (pc2 := 96) (pc3 := 92) C dX8_stateAt_89 rfl rfl (fun h89 => ?_) (fun h89 => ?_)
              · have hres := (if_pos h89).symm.trans hres
                refine v_iconst (pc2 := 97) C dX8_stateAt_96 ki_0 rfl ?_
                exact r_iS C E hres dX8_stateAt_97
              · have hres := (if_neg h89).symm.trans hres
                refine v_iconst (pc2 := 93) C dX8_stateAt_92 ki_1 rfl ?_
                refine v_goto (pc2 := 97) C dX8_stateAt_93 rfl ?_
                exact r_iS C E hres dX8_stateAt_97
            · have hres := (if_neg h78).symm.trans hres
              refine v_iconst (pc2 := 82) C dX8_stateAt_81 ki_2 rfl ?_
              exact r_iS C E hres dX8_stateAt_82
      · have hres := (if_neg h43).symm.trans hres
        refine v_aload_n (pc2 := 47) C 1 dX8_stateAt_46 rfl rfl ?_
        refine v_iconst (pc2 := 48) C dX8_stateAt_47 ki_1 rfl ?_
        refine vp_X8_isStowed (pc2 := 51) C (Or.inr rfl) lf_X8_26 dX8_stateAt_48 rfl ?_
        refine v_goto (pc2 := 74) C dX8_stateAt_51 rfl ?_
        refine v_aload_n (pc2 := 75) C 1 dX8_stateAt_74 rfl rfl ?_
        refine vg_X8_isStowed (pc2 := 78) C lf_X8_26 dX8_stateAt_75 rfl ?_
        refine v_ifeq (pc2 := 83) (pc3 := 81) C dX8_stateAt_78 rfl rfl (fun h78 => ?_) (fun h78 => ?_)
        · have hres := (if_pos h78).symm.trans hres
          refine v_aload_n (pc2 := 84) C 1 dX8_stateAt_83 rfl rfl ?_
          refine vg_X8_cleans (pc2 := 87) C lf_X8_15 dX8_stateAt_84 rfl ?_
          refine v_iload_n (pc2 := 88) C 2 dX8_stateAt_87 rfl rfl ?_
          refine al19 (pc2 := 89) C h1 dX8_stateAt_88 rfl ?_
          refine v_ifeq (pc2 := 96) (pc3 := 92) C dX8_stateAt_89 rfl rfl (fun h89 => ?_) (fun h89 => ?_)
          · have hres := (if_pos h89).symm.trans hres
            refine v_iconst (pc2 := 97) C dX8_stateAt_96 ki_0 rfl ?_
            exact r_iS C E hres dX8_stateAt_97
          · have hres := (if_neg h89).symm.trans hres
            refine v_iconst (pc2 := 93) C dX8_stateAt_92 ki_1 rfl ?_
            refine v_goto (pc2 := 97) C dX8_stateAt_93 rfl ?_
            exact r_iS C E hres dX8_stateAt_97
        · have hres := (if_neg h78).symm.trans hres
          refine v_iconst (pc2 := 82) C dX8_stateAt_81 ki_2 rfl ?_
          exact r_iS C E hres dX8_stateAt_82
  · have hres := (if_pos h10).symm.trans hres
    refine v_aload_n (pc2 := 14) C 1 dX8_stateAt_13 rfl rfl ?_
    refine vg_X8_lostInARow (pc2 := 17) C lf_X8_23 dX8_stateAt_14 rfl ?_
    refine v_iconst (pc2 := 18) C dX8_stateAt_17 ki_1 rfl ?_
    refine v_iadd (pc2 := 19) C dX8_stateAt_18 rfl ?_
    refine v_iconst (pc2 := 20) C dX8_stateAt_19 ki_3 rfl ?_
    refine v_mmin (pc2 := 23) C ml_X8_30 ms_mmin mi_Math mc_mmin (by decide) (Nat.le_of_ble_eq_true rfl) dX8_stateAt_20 rfl ?_
    refine v_goto (pc2 := 27) C dX8_stateAt_23 rfl ?_
    refine vp_X8_lostInARow (pc2 := 30) C lf_X8_23 dX8_stateAt_27 rfl ?_
    refine v_iload_n (pc2 := 31) C 0 dX8_stateAt_30 rfl rfl ?_
    refine v_aload_n (pc2 := 32) C 1 dX8_stateAt_31 rfl rfl ?_
    refine vg_X8_stowAt (pc2 := 35) C lf_X8_19 dX8_stateAt_32 rfl ?_
    refine v_icmpge (pc2 := 46) (pc3 := 38) C dX8_stateAt_35 rfl rfl (fun h35 => ?_) (fun h35 => ?_)
    · have hres := (if_pos h35).symm.trans hres
      refine v_aload_n (pc2 := 47) C 1 dX8_stateAt_46 rfl rfl ?_
      refine v_iconst (pc2 := 48) C dX8_stateAt_47 ki_1 rfl ?_
      refine vp_X8_isStowed (pc2 := 51) C (Or.inr rfl) lf_X8_26 dX8_stateAt_48 rfl ?_
      refine v_goto (pc2 := 74) C dX8_stateAt_51 rfl ?_
      refine v_aload_n (pc2 := 75) C 1 dX8_stateAt_74 rfl rfl ?_
      refine vg_X8_isStowed (pc2 := 78) C lf_X8_26 dX8_stateAt_75 rfl ?_
      refine v_ifeq (pc2 := 83) (pc3 := 81) C dX8_stateAt_78 rfl rfl (fun h78 => ?_) (fun h78 => ?_)
      · have hres := (if_pos h78).symm.trans hres
        refine v_aload_n (pc2 := 84) C 1 dX8_stateAt_83 rfl rfl ?_
        refine vg_X8_cleans (pc2 := 87) C lf_X8_15 dX8_stateAt_84 rfl ?_
        refine v_iload_n (pc2 := 88) C 2 dX8_stateAt_87 rfl rfl ?_
        refine al19 (pc2 := 89) C h1 dX8_stateAt_88 rfl ?_
        refine v_ifeq (pc2 := 96) (pc3 := 92) C dX8_stateAt_89 rfl rfl (fun h89 => ?_) (fun h89 => ?_)
        · have hres := (if_pos h89).symm.trans hres
          refine v_iconst (pc2 := 97) C dX8_stateAt_96 ki_0 rfl ?_
          exact r_iS C E hres dX8_stateAt_97
        · have hres := (if_neg h89).symm.trans hres
          refine v_iconst (pc2 := 93) C dX8_stateAt_92 ki_1 rfl ?_
          refine v_goto (pc2 := 97) C dX8_stateAt_93 rfl ?_
          exact r_iS C E hres dX8_stateAt_97
      · have hres := (if_neg h78).symm.trans hres
        refine v_iconst (pc2 := 82) C dX8_stateAt_81 ki_2 rfl ?_
        exact r_iS C E hres dX8_stateAt_82
    · have hres := (if_neg h35).symm.trans hres
      refine v_aload_n (pc2 := 39) C 1 dX8_stateAt_38 rfl rfl ?_
      refine vg_X8_lostInARow (pc2 := 42) C lf_X8_23 dX8_stateAt_39 rfl ?_
      refine v_iconst (pc2 := 43) C dX8_stateAt_42 ki_3 rfl ?_
      refine v_icmplt (pc2 := 54) (pc3 := 46) C dX8_stateAt_43 rfl rfl (fun h43 => ?_) (fun h43 => ?_)
      · have hres := (if_pos h43).symm.trans hres
        refine v_iload_n (pc2 := 55) C 0 dX8_stateAt_54 rfl rfl ?_
        refine v_iconst (pc2 := 56) C dX8_stateAt_55 ki_m1 rfl ?_
        refine v_icmpeq (pc2 := 74) (pc3 := 59) C dX8_stateAt_56 rfl rfl (fun h56 => ?_) (fun h56 => ?_)
        · have hres := (if_pos h56).symm.trans hres
          refine v_aload_n (pc2 := 75) C 1 dX8_stateAt_74 rfl rfl ?_
          refine vg_X8_isStowed (pc2 := 78) C lf_X8_26 dX8_stateAt_75 rfl ?_
          refine v_ifeq (pc2 := 83) (pc3 := 81) C dX8_stateAt_78 rfl rfl (fun h78 => ?_) (fun h78 => ?_)
          · have hres := (if_pos h78).symm.trans hres
            refine v_aload_n (pc2 := 84) C 1 dX8_stateAt_83 rfl rfl ?_
            refine vg_X8_cleans (pc2 := 87) C lf_X8_15 dX8_stateAt_84 rfl ?_
            refine v_iload_n (pc2 := 88) C 2 dX8_stateAt_87 rfl rfl ?_
            refine al19 (pc2 := 89) C h1 dX8_stateAt_88 rfl ?_
            refine v_ifeq (pc2 := 96) (pc3 := 92) C dX8_stateAt_89 rfl rfl (fun h89 => ?_) (fun h89 => ?_)
            · have hres := (if_pos h89).symm.trans hres
              refine v_iconst (pc2 := 97) C dX8_stateAt_96 ki_0 rfl ?_
              exact r_iS C E hres dX8_stateAt_97
            · have hres := (if_neg h89).symm.trans hres
              refine v_iconst (pc2 := 93) C dX8_stateAt_92 ki_1 rfl ?_
              refine v_goto (pc2 := 97) C dX8_stateAt_93 rfl ?_
              exact r_iS C E hres dX8_stateAt_97
          · have hres := (if_neg h78).symm.trans hres
            refine v_iconst (pc2 := 82) C dX8_stateAt_81 ki_2 rfl ?_
            exact r_iS C E hres dX8_stateAt_82
        · have hres := (if_neg h56).symm.trans hres
          refine v_iload_n (pc2 := 60) C 0 dX8_stateAt_59 rfl rfl ?_
          refine v_aload_n (pc2 := 61) C 1 dX8_stateAt_60 rfl rfl ?_
          refine vg_X8_stowAt (pc2 := 64) C lf_X8_19 dX8_stateAt_61 rfl ?_
          refine v_iconst (pc2 := 65) C dX8_stateAt_64 ki_2 rfl ?_
          refine v_idiv (pc2 := 66) C dX8_stateAt_65 (by decide) rfl ?_
          refine v_icmpge (pc2 := 74) (pc3 := 69) C dX8_stateAt_66 rfl rfl (fun h66 => ?_) (fun h66 => ?_)
          · have hres := (if_pos h66).symm.trans hres
            refine v_aload_n (pc2 := 75) C 1 dX8_stateAt_74 rfl rfl ?_
            refine vg_X8_isStowed (pc2 := 78) C lf_X8_26 dX8_stateAt_75 rfl ?_
            refine v_ifeq (pc2 := 83) (pc3 := 81) C dX8_stateAt_78 rfl rfl (fun h78 => ?_) (fun h78 => ?_)
            · have hres := (if_pos h78).symm.trans hres
              refine v_aload_n (pc2 := 84) C 1 dX8_stateAt_83 rfl rfl ?_
              refine vg_X8_cleans (pc2 := 87) C lf_X8_15 dX8_stateAt_84 rfl ?_
              refine v_iload_n (pc2 := 88) C 2 dX8_stateAt_87 rfl rfl ?_
              refine al19 (pc2 := 89) C h1 dX8_stateAt_88 rfl ?_
              refine v_ifeq (pc2 := 96) (pc3 := 92) C dX8_stateAt_89 rfl rfl (fun h89 => ?_) (fun h89 => ?_)
              · have hres := (if_pos h89).symm.trans hres
                refine v_iconst (pc2 := 97) C dX8_stateAt_96 ki_0 rfl ?_
                exact r_iS C E hres dX8_stateAt_97
              · have hres := (if_neg h89).symm.trans hres
                refine v_iconst (pc2 := 93) C dX8_stateAt_92 ki_1 rfl ?_
                refine v_goto (pc2 := 97) C dX8_stateAt_93 rfl ?_
                exact r_iS C E hres dX8_stateAt_97
            · have hres := (if_neg h78).symm.trans hres
              refine v_iconst (pc2 := 82) C dX8_stateAt_81 ki_2 rfl ?_
              exact r_iS C E hres dX8_stateAt_82
          · have hres := (if_neg h66).symm.trans hres
            refine v_aload_n (pc2 := 70) C 1 dX8_stateAt_69 rfl rfl ?_
            refine v_iconst (pc2 := 71) C dX8_stateAt_70 ki_0 rfl ?_
            refine vp_X8_isStowed (pc2 := 74) C (Or.inl rfl) lf_X8_26 dX8_stateAt_71 rfl ?_
            refine v_aload_n (pc2 := 75) C 1 dX8_stateAt_74 rfl rfl ?_
            refine vg_X8_isStowed (pc2 := 78) C lf_X8_26 dX8_stateAt_75 rfl ?_
            refine v_ifeq (pc2 := 83) (pc3 := 81) C dX8_stateAt_78 rfl rfl (fun h78 => ?_) (fun h78 => ?_)
            · have hres := (if_pos h78).symm.trans hres
              refine v_aload_n (pc2 := 84) C 1 dX8_stateAt_83 rfl rfl ?_
              refine vg_X8_cleans (pc2 := 87) C lf_X8_15 dX8_stateAt_84 rfl ?_
              refine v_iload_n (pc2 := 88) C 2 dX8_stateAt_87 rfl rfl ?_
              refine al19 (pc2 := 89) C h1 dX8_stateAt_88 rfl ?_
              refine v_ifeq (pc2 := 96) (pc3 := 92) C dX8_stateAt_89 rfl rfl (fun h89 => ?_) (fun h89 => ?_)
              · have hres := (if_pos h89).symm.trans hres
                refine v_iconst (pc2 := 97) C dX8_stateAt_96 ki_0 rfl ?_
                exact r_iS C E hres dX8_stateAt_97
              · have hres := (if_neg h89).symm.trans hres
                refine v_iconst (pc2 := 93) C dX8_stateAt_92 ki_1 rfl ?_
                refine v_goto (pc2 := 97) C dX8_stateAt_93 rfl ?_
                exact r_iS C E hres dX8_stateAt_97
            · have hres := (if_neg h78).symm.trans hres
              refine v_iconst (pc2 := 82) C dX8_stateAt_81 ki_2 rfl ?_
              exact r_iS C E hres dX8_stateAt_82
      · have hres := (if_neg h43).symm.trans hres
        refine v_aload_n (pc2 := 47) C 1 dX8_stateAt_46 rfl rfl ?_
        refine v_iconst (pc2 := 48) C dX8_stateAt_47 ki_1 rfl ?_
        refine vp_X8_isStowed (pc2 := 51) C (Or.inr rfl) lf_X8_26 dX8_stateAt_48 rfl ?_
        refine v_goto (pc2 := 74) C dX8_stateAt_51 rfl ?_
        refine v_aload_n (pc2 := 75) C 1 dX8_stateAt_74 rfl rfl ?_
        refine vg_X8_isStowed (pc2 := 78) C lf_X8_26 dX8_stateAt_75 rfl ?_
        refine v_ifeq (pc2 := 83) (pc3 := 81) C dX8_stateAt_78 rfl rfl (fun h78 => ?_) (fun h78 => ?_)
        · have hres := (if_pos h78).symm.trans hres
          refine v_aload_n (pc2 := 84) C 1 dX8_stateAt_83 rfl rfl ?_
          refine vg_X8_cleans (pc2 := 87) C lf_X8_15 dX8_stateAt_84 rfl ?_
          refine v_iload_n (pc2 := 88) C 2 dX8_stateAt_87 rfl rfl ?_
          refine al19 (pc2 := 89) C h1 dX8_stateAt_88 rfl ?_
          refine v_ifeq (pc2 := 96) (pc3 := 92) C dX8_stateAt_89 rfl rfl (fun h89 => ?_) (fun h89 => ?_)
          · have hres := (if_pos h89).symm.trans hres
            refine v_iconst (pc2 := 97) C dX8_stateAt_96 ki_0 rfl ?_
            exact r_iS C E hres dX8_stateAt_97
          · have hres := (if_neg h89).symm.trans hres
            refine v_iconst (pc2 := 93) C dX8_stateAt_92 ki_1 rfl ?_
            refine v_goto (pc2 := 97) C dX8_stateAt_93 rfl ?_
            exact r_iS C E hres dX8_stateAt_97
        · have hres := (if_neg h78).symm.trans hres
          refine v_iconst (pc2 := 82) C dX8_stateAt_81 ki_2 rfl ?_
          exact r_iS C E hres dX8_stateAt_82
theorem mX8_stateAt (l : Launch) (Λ : LY) (σ : St) (a1 : Int32) (h1 : vp_in a1 24) : CT l Λ yX8_stateAt cX8_stateAt 3 (some .int) 1 23 [.ref (adr Λ 4), .int (a1)] σ (some (.int (f8_stateAt σ a1).1)) (f8_stateAt σ a1).2 := by
  refine CT_of (by decide +kernel) (Nat.le_of_ble_eq_true rfl) ?_
  intro X hX C E
  obtain ⟨res, hres⟩ : ∃ r, (f8_stateAt σ a1) = r := ⟨_, rfl⟩
  rw [hres] at E
  exact bf8_stateAt C E _ _  h1 hres
def fJ_bitCount (a1 : Int32) : Int32 :=
  ((((((((a1 - (((Int32.toUInt32 a1 >>> (Int32.toUInt32 (1 : Int32) &&& Int32.toUInt32 31)).toInt32) &&& (1431655765 : Int32))) &&& (858993459 : Int32)) + (((Int32.toUInt32 (a1 - (((Int32.toUInt32 a1 >>> (Int32.toUInt32 (1 : Int32) &&& Int32.toUInt32 31)).toInt32) &&& (1431655765 : Int32))) >>> (Int32.toUInt32 (2 : Int32) &&& Int32.toUInt32 31)).toInt32) &&& (858993459 : Int32))) + ((Int32.toUInt32 (((a1 - (((Int32.toUInt32 a1 >>> (Int32.toUInt32 (1 : Int32) &&& Int32.toUInt32 31)).toInt32) &&& (1431655765 : Int32))) &&& (858993459 : Int32)) + (((Int32.toUInt32 (a1 - (((Int32.toUInt32 a1 >>> (Int32.toUInt32 (1 : Int32) &&& Int32.toUInt32 31)).toInt32) &&& (1431655765 : Int32))) >>> (Int32.toUInt32 (2 : Int32) &&& Int32.toUInt32 31)).toInt32) &&& (858993459 : Int32))) >>> (Int32.toUInt32 (4 : Int32) &&& Int32.toUInt32 31)).toInt32)) &&& (252645135 : Int32)) + ((Int32.toUInt32 (((((a1 - (((Int32.toUInt32 a1 >>> (Int32.toUInt32 (1 : Int32) &&& Int32.toUInt32 31)).toInt32) &&& (1431655765 : Int32))) &&& (858993459 : Int32)) + (((Int32.toUInt32 (a1 - (((Int32.toUInt32 a1 >>> (Int32.toUInt32 (1 : Int32) &&& Int32.toUInt32 31)).toInt32) &&& (1431655765 : Int32))) >>> (Int32.toUInt32 (2 : Int32) &&& Int32.toUInt32 31)).toInt32) &&& (858993459 : Int32))) + ((Int32.toUInt32 (((a1 - (((Int32.toUInt32 a1 >>> (Int32.toUInt32 (1 : Int32) &&& Int32.toUInt32 31)).toInt32) &&& (1431655765 : Int32))) &&& (858993459 : Int32)) + (((Int32.toUInt32 (a1 - (((Int32.toUInt32 a1 >>> (Int32.toUInt32 (1 : Int32) &&& Int32.toUInt32 31)).toInt32) &&& (1431655765 : Int32))) >>> (Int32.toUInt32 (2 : Int32) &&& Int32.toUInt32 31)).toInt32) &&& (858993459 : Int32))) >>> (Int32.toUInt32 (4 : Int32) &&& Int32.toUInt32 31)).toInt32)) &&& (252645135 : Int32)) >>> (Int32.toUInt32 (8 : Int32) &&& Int32.toUInt32 31)).toInt32)) + ((Int32.toUInt32 ((((((a1 - (((Int32.toUInt32 a1 >>> (Int32.toUInt32 (1 : Int32) &&& Int32.toUInt32 31)).toInt32) &&& (1431655765 : Int32))) &&& (858993459 : Int32)) + (((Int32.toUInt32 (a1 - (((Int32.toUInt32 a1 >>> (Int32.toUInt32 (1 : Int32) &&& Int32.toUInt32 31)).toInt32) &&& (1431655765 : Int32))) >>> (Int32.toUInt32 (2 : Int32) &&& Int32.toUInt32 31)).toInt32) &&& (858993459 : Int32))) + ((Int32.toUInt32 (((a1 - (((Int32.toUInt32 a1 >>> (Int32.toUInt32 (1 : Int32) &&& Int32.toUInt32 31)).toInt32) &&& (1431655765 : Int32))) &&& (858993459 : Int32)) + (((Int32.toUInt32 (a1 - (((Int32.toUInt32 a1 >>> (Int32.toUInt32 (1 : Int32) &&& Int32.toUInt32 31)).toInt32) &&& (1431655765 : Int32))) >>> (Int32.toUInt32 (2 : Int32) &&& Int32.toUInt32 31)).toInt32) &&& (858993459 : Int32))) >>> (Int32.toUInt32 (4 : Int32) &&& Int32.toUInt32 31)).toInt32)) &&& (252645135 : Int32)) + ((Int32.toUInt32 (((((a1 - (((Int32.toUInt32 a1 >>> (Int32.toUInt32 (1 : Int32) &&& Int32.toUInt32 31)).toInt32) &&& (1431655765 : Int32))) &&& (858993459 : Int32)) + (((Int32.toUInt32 (a1 - (((Int32.toUInt32 a1 >>> (Int32.toUInt32 (1 : Int32) &&& Int32.toUInt32 31)).toInt32) &&& (1431655765 : Int32))) >>> (Int32.toUInt32 (2 : Int32) &&& Int32.toUInt32 31)).toInt32) &&& (858993459 : Int32))) + ((Int32.toUInt32 (((a1 - (((Int32.toUInt32 a1 >>> (Int32.toUInt32 (1 : Int32) &&& Int32.toUInt32 31)).toInt32) &&& (1431655765 : Int32))) &&& (858993459 : Int32)) + (((Int32.toUInt32 (a1 - (((Int32.toUInt32 a1 >>> (Int32.toUInt32 (1 : Int32) &&& Int32.toUInt32 31)).toInt32) &&& (1431655765 : Int32))) >>> (Int32.toUInt32 (2 : Int32) &&& Int32.toUInt32 31)).toInt32) &&& (858993459 : Int32))) >>> (Int32.toUInt32 (4 : Int32) &&& Int32.toUInt32 31)).toInt32)) &&& (252645135 : Int32)) >>> (Int32.toUInt32 (8 : Int32) &&& Int32.toUInt32 31)).toInt32)) >>> (Int32.toUInt32 (16 : Int32) &&& Int32.toUInt32 31)).toInt32)) &&& (63 : Int32))
set_option maxHeartbeats 4000000 in
set_option maxRecDepth 100000 in
theorem bfJ_bitCount {X : CX} {Λ : LY} (C : OK X Λ cJ6_bitCount_0f7a4 1 RJ6 0 0) {σ : St} {res : Int32} (E : EN X Λ (some .int) (some (.int res)) σ) (a1 : Int32)  (hres : (fJ_bitCount a1) = res) : VV X Λ 1 0 [(0, .int (a1))] [] σ := by
  unfold fJ_bitCount at hres
  refine v_iload_n (pc2 := 1) C 0 dJ6_bitCount_0f7a4_0 rfl rfl ?_
  refine v_iload_n (pc2 := 2) C 0 dJ6_bitCount_0f7a4_1 rfl rfl ?_
  refine v_iconst (pc2 := 3) C dJ6_bitCount_0f7a4_2 ki_1 rfl ?_
  refine v_iushr (pc2 := 4) C dJ6_bitCount_0f7a4_3 rfl ?_
  refine v_ldcw (pc2 := 7) C lc_J6_265 dJ6_bitCount_0f7a4_4 rfl ?_
  refine v_iand (pc2 := 8) C dJ6_bitCount_0f7a4_7 rfl ?_
  refine v_isub (pc2 := 9) C dJ6_bitCount_0f7a4_8 rfl ?_
  refine v_istore_n (pc2 := 10) (lv2 := [(0, _)]) C dJ6_bitCount_0f7a4_9 (by decide) rfl rfl ?_
  refine v_iload_n (pc2 := 11) C 0 dJ6_bitCount_0f7a4_10 rfl rfl ?_
  refine v_ldcw (pc2 := 14) C lc_J6_266 dJ6_bitCount_0f7a4_11 rfl ?_
  refine v_iand (pc2 := 15) C dJ6_bitCount_0f7a4_14 rfl ?_
  refine v_iload_n (pc2 := 16) C 0 dJ6_bitCount_0f7a4_15 rfl rfl ?_
  refine v_iconst (pc2 := 17) C dJ6_bitCount_0f7a4_16 ki_2 rfl ?_
  refine v_iushr (pc2 := 18) C dJ6_bitCount_0f7a4_17 rfl ?_
  refine v_ldcw (pc2 := 21) C lc_J6_266 dJ6_bitCount_0f7a4_18 rfl ?_
  refine v_iand (pc2 := 22) C dJ6_bitCount_0f7a4_21 rfl ?_
  refine v_iadd (pc2 := 23) C dJ6_bitCount_0f7a4_22 rfl ?_
  refine v_istore_n (pc2 := 24) (lv2 := [(0, _)]) C dJ6_bitCount_0f7a4_23 (by decide) rfl rfl ?_
  refine v_iload_n (pc2 := 25) C 0 dJ6_bitCount_0f7a4_24 rfl rfl ?_
  refine v_iload_n (pc2 := 26) C 0 dJ6_bitCount_0f7a4_25 rfl rfl ?_
  refine v_iconst (pc2 := 27) C dJ6_bitCount_0f7a4_26 ki_4 rfl ?_
  refine v_iushr (pc2 := 28) C dJ6_bitCount_0f7a4_27 rfl ?_
  refine v_iadd (pc2 := 29) C dJ6_bitCount_0f7a4_28 rfl ?_
  refine v_ldcw (pc2 := 32) C lc_J6_267 dJ6_bitCount_0f7a4_29 rfl ?_
  refine v_iand (pc2 := 33) C dJ6_bitCount_0f7a4_32 rfl ?_
  refine v_istore_n (pc2 := 34) (lv2 := [(0, _)]) C dJ6_bitCount_0f7a4_33 (by decide) rfl rfl ?_
  refine v_iload_n (pc2 := 35) C 0 dJ6_bitCount_0f7a4_34 rfl rfl ?_
  refine v_iload_n (pc2 := 36) C 0 dJ6_bitCount_0f7a4_35 rfl rfl ?_
  refine v_bipush (pc2 := 38) C dJ6_bitCount_0f7a4_36 kb_8 rfl ?_
  refine v_iushr (pc2 := 39) C dJ6_bitCount_0f7a4_38 rfl ?_
  refine v_iadd (pc2 := 40) C dJ6_bitCount_0f7a4_39 rfl ?_
  refine v_istore_n (pc2 := 41) (lv2 := [(0, _)]) C dJ6_bitCount_0f7a4_40 (by decide) rfl rfl ?_
  refine v_iload_n (pc2 := 42) C 0 dJ6_bitCount_0f7a4_41 rfl rfl ?_
  refine v_iload_n (pc2 := 43) C 0 dJ6_bitCount_0f7a4_42 rfl rfl ?_
  refine v_bipush (pc2 := 45) C dJ6_bitCount_0f7a4_43 kb_16 rfl ?_
  refine v_iushr (pc2 := 46) C dJ6_bitCount_0f7a4_45 rfl ?_
  refine v_iadd (pc2 := 47) C dJ6_bitCount_0f7a4_46 rfl ?_
  refine v_istore_n (pc2 := 48) (lv2 := [(0, _)]) C dJ6_bitCount_0f7a4_47 (by decide) rfl rfl ?_
  refine v_iload_n (pc2 := 49) C 0 dJ6_bitCount_0f7a4_48 rfl rfl ?_
  refine v_bipush (pc2 := 51) C dJ6_bitCount_0f7a4_49 kb_63 rfl ?_
  refine v_iand (pc2 := 52) C dJ6_bitCount_0f7a4_51 rfl ?_
  exact r_iP C E hres dJ6_bitCount_0f7a4_52
theorem mJ6_bitCount_0f7a4 (l : Launch) (Λ : LY) (σ : St) (a1 : Int32)  : CT l Λ yJ6_bitCount_0f7a4 cJ6_bitCount_0f7a4 1 (some .int) 0 0 [.int (a1)] σ (some (.int (fJ_bitCount a1))) σ := by
  refine CT_of (by decide +kernel) (Nat.le_of_ble_eq_true rfl) ?_
  intro X hX C E
  obtain ⟨res, hres⟩ : ∃ r, (fJ_bitCount a1) = r := ⟨_, rfl⟩
  rw [hres] at E
  exact bfJ_bitCount C E _   hres
