/-- the tape's places, by threes -/
def U3 (j : Int32) (n : Nat) : Prop := 0 ≤ j.toInt ∧ j.toInt ≤ 72 ∧ j.toInt % 3 = 0 ∧ 75 ≤ j.toInt + 3 * n
theorem U3.z {j : Int32} (h : U3 j 0) : False := by obtain ⟨h1, h2, h3, h4⟩ := h; omega
theorem U3.start : U3 (0 : Int32) 25 := ⟨by rw [lit_0]; decide, by rw [lit_0]; decide, by rw [lit_0]; decide, by rw [lit_0]; decide⟩
theorem i_addk {x k : Int32} {b m : Int} (hk : k.toInt = m) (h0 : 0 ≤ x.toInt) (hm : 0 ≤ m) (h : x.toInt + m ≤ b) (hb : b ≤ 2147483647) : (x + k).toInt = x.toInt + m := by
  rw [i_add (by rw [hk]; omega) (by rw [hk]; omega), hk]
theorem U3.lt {j : Int32} {n : Nat} (h : U3 j n) {t : Int32} (hc : ¬ t ≤ j + (2 : Int32)) (ht : t.toInt ≤ 72) : j.toInt + 2 < t.toInt := by
  have h1 := t_nle hc rfl rfl
  obtain ⟨h2, h3, h4, h5⟩ := h
  rw [i_addk (b := 100) lit_2 h2 (by omega) (by omega) (by omega)] at h1
  exact h1
theorem U3.i0 {j : Int32} {n : Nat} (h : U3 j n) {t : Int32} (hc : ¬ t ≤ j + (2 : Int32)) (ht : t.toInt ≤ 72) : vp_in j 72 := vin h.1 (by have := h.lt hc ht; omega)
theorem U3.i1 {j : Int32} {n : Nat} (h : U3 j n) {t : Int32} (hc : ¬ t ≤ j + (2 : Int32)) (ht : t.toInt ≤ 72) : vp_in (j + (1 : Int32)) 72 := by
  have h1 := h.lt hc ht
  have h2 := i_addk (x := j) (b := 100) lit_1 h.1 (by omega) (by omega) (by omega)
  exact vin (by have := h.1; omega) (by omega)
theorem U3.i2 {j : Int32} {n : Nat} (h : U3 j n) {t : Int32} (hc : ¬ t ≤ j + (2 : Int32)) (ht : t.toInt ≤ 72) : vp_in (j + (2 : Int32)) 72 := by
  have h1 := h.lt hc ht
  have h2 := i_addk (x := j) (b := 100) lit_2 h.1 (by omega) (by omega) (by omega)
  exact vin (by have := h.1; omega) (by omega)
theorem U3.step {j : Int32} {n : Nat} (h : U3 j (n + 1)) {t : Int32} (hc : ¬ t ≤ j + (2 : Int32)) (ht : t.toInt ≤ 72) : U3 (j + (3 : Int32)) n := by
  have h1 := h.lt hc ht
  obtain ⟨h2, h3, h4, h5⟩ := h
  have h6 := i_addk (x := j) (b := 100) lit_3 h2 (by omega) (by omega) (by omega)
  exact ⟨by omega, by omega, by omega, by omega⟩
theorem U3.nat {j : Int32} {n : Nat} (h : U3 j n) {t : Int32} (hc : ¬ t ≤ j + (2 : Int32)) (ht : t.toInt ≤ 72) : Int32.toNatClampNeg (j + (1 : Int32)) = Int32.toNatClampNeg j + 1 ∧ Int32.toNatClampNeg (j + (2 : Int32)) = Int32.toNatClampNeg j + 2 := by
  have h1 := h.lt hc ht
  have h2 := i_addk (x := j) (b := 100) lit_1 h.1 (by omega) (by omega) (by omega)
  have h3 := i_addk (x := j) (b := 100) lit_2 h.1 (by omega) (by omega) (by omega)
  have h4 := h.1
  simp only [Int32.toNatClampNeg]
  omega
def AllS (σ : St) (j : Int32) : Prop := ∀ i : Nat, i % 3 = 0 → (i : Int) < j.toInt → ¬ f9_isSunWay (gA σ 8 i) (gA σ 8 (i + 1)) (gA σ 8 (i + 2)) = 0
def AllT (σ : St) (t : Int32) : Prop := ∀ i : Nat, i % 3 = 0 → (i : Int) + 2 < t.toInt → ¬ f9_isSunWay (gA σ 8 i) (gA σ 8 (i + 1)) (gA σ 8 (i + 2)) = 0
theorem AllS.start {σ : St} : AllS σ (0 : Int32) := fun i _ h => by rw [lit_0] at h; omega
theorem AllS.step {σ : St} {j : Int32} {n : Nat} (ha : AllS σ j) (h : U3 j n) {t : Int32} (hc : ¬ t ≤ j + (2 : Int32)) (ht : t.toInt ≤ 72) (hw : ¬ f9_isSunWay (gA σ 8 (Int32.toNatClampNeg j)) (gA σ 8 (Int32.toNatClampNeg (j + (1 : Int32)))) (gA σ 8 (Int32.toNatClampNeg (j + (2 : Int32)))) = 0) : AllS σ (j + (3 : Int32)) := by
  intro i h1 h2
  have h3 := h.lt hc ht
  obtain ⟨e1, e2⟩ := h.nat hc ht
  rw [e1, e2] at hw
  obtain ⟨h4, h5, h6, h7⟩ := h
  rw [i_addk (b := 100) lit_3 h4 (by omega) (by omega) (by omega)] at h2
  have h8 : (Int32.toNatClampNeg j : Int) = j.toInt := by simp only [Int32.toNatClampNeg]; omega
  by_cases q : (i : Int) < j.toInt
  · exact ha i h1 q
  · have : i = Int32.toNatClampNeg j := by omega
    rw [this]; exact hw
theorem AllS.all {σ : St} {j : Int32} {n : Nat} (ha : AllS σ j) (h : U3 j n) {t : Int32} (hc : t ≤ j + (2 : Int32)) (ht : t.toInt ≤ 72) : AllT σ t := by
  intro i h1 h2
  have h3 := t_le hc rfl rfl
  rw [i_addk (b := 100) lit_2 h.1 (by omega) (by have := h.2.1; omega) (by omega)] at h3
  exact ha i h1 (by omega)
theorem AllT.at {σ : St} {j t : Int32} {n : Nat} (ha : AllT σ t) (h : U3 j n) (hc : ¬ t ≤ j + (2 : Int32)) (ht : t.toInt ≤ 72) : ¬ f9_isSunWay (gA σ 8 (Int32.toNatClampNeg j)) (gA σ 8 (Int32.toNatClampNeg (j + (1 : Int32)))) (gA σ 8 (Int32.toNatClampNeg (j + (2 : Int32)))) = 0 := by
  obtain ⟨e1, e2⟩ := h.nat hc ht
  have h3 := h.lt hc ht
  have h4 := h.1
  have h5 := h.2.2.1
  have h8 : (Int32.toNatClampNeg j : Int) = j.toInt := by simp only [Int32.toNatClampNeg]; omega
  rw [e1, e2]
  exact ha _ (by omega) (by omega)
theorem AllT.put {σ : St} {t : Int32} {a b c : Int32} (ha : AllT σ t) : AllT (f4_put σ a b c) t := ha
theorem wi5_in {a : Int32} (h : ¬ f9_isWithin a (0 : Int32) (5 : Int32) = 0) : vp_in a 6 := by
  have h2 := wi_t h
  rw [lit_0, lit_5] at h2
  exact vin (by omega) (by omega)
theorem in72 {a : Int32} (h : vp_in a 6) : vp_in a 72 := by
  have := vp_in_iff.mp h
  exact vin (by omega) (by omega)
theorem found_in {a : Int32} (h : ¬ f9_isWithin a (-1000000005 : Int32) (-1000000001 : Int32) = 0) : vp_in ((-1000000001 : Int32) - a) 5 := by
  have h2 := wi_t h
  rw [lit_m1000000005, lit_m1000000001] at h2
  have h3 : ((-1000000001 : Int32) - a).toInt = -1000000001 - a.toInt := by rw [i_sub (by rw [lit_m1000000001]; omega) (by rw [lit_m1000000001]; omega), lit_m1000000001]
  exact vin (by omega) (by omega)
def f9_row_B (σ : St) (a1 : Int32) (a2 : Int32) (a3 : Int32) (a4 : Int32) (a5 : Int32) : Int32 × St :=
  (if (f0_isAboveLast σ a2) = (0 : Int32) then (((f9_answer σ (-1000000005 : Int32)).1), ((f9_answer σ (-1000000005 : Int32)).2)) else (if (gI σ 2) < (10 : Int32) then (((gI (uI (f3_begin σ (Int32.toNatClampNeg (gI σ 2)) a1 a2 a3 a4 a5) 2 ((gI (f3_begin σ (Int32.toNatClampNeg (gI σ 2)) a1 a2 a3 a4 a5) 2) + (1 : Int32))) 2) - (1 : Int32)), (uI (f3_begin σ (Int32.toNatClampNeg (gI σ 2)) a1 a2 a3 a4 a5) 2 ((gI (f3_begin σ (Int32.toNatClampNeg (gI σ 2)) a1 a2 a3 a4 a5) 2) + (1 : Int32)))) else (((f9_answer σ (-1000000004 : Int32)).1), ((f9_answer σ (-1000000004 : Int32)).2))))
set_option maxHeartbeats 4000000 in
set_option maxRecDepth 100000 in
theorem bf9_row_B {X : CX} {Λ : LY} (C : OK X Λ cX9_row 7 RX9 2 42) {res : Int32 × St} (E : EN X Λ (some .int) (some (.int res.1)) res.2) (σ : St) (a1 : Int32) (a2 : Int32) (a3 : Int32) (a4 : Int32) (a5 : Int32) (hs : Safe σ) (hres : (f9_row_B σ a1 a2 a3 a4 a5) = res) : VV X Λ 7 64 [(0, .ref (adr Λ 0)), (1, .int (a1)), (2, .int (a2)), (3, .int (a3)), (4, .int (a4)), (5, .int (a5))] [] σ := by
  unfold f9_row_B at hres
  refine v_aload_n (pc2 := 65) C 0 dX9_row_64 rfl rfl ?_
  refine vg_X9_field (pc2 := 68) C lf_X9_10 dX9_row_65 rfl ?_
  refine v_iload_n (pc2 := 69) C 2 dX9_row_68 rfl rfl ?_
  refine v_cVi (pc2 := 72) C kc_X9_85 (mX0_isAboveLast (xl X) Λ _ _ hs) (wd1 Λ _) rfl (by decide) rfl rfl (Nat.le_of_ble_eq_true rfl) dX9_row_69 rfl ?_
  refine v_ifne (pc2 := 82) (pc3 := 75) C dX9_row_72 rfl rfl (fun h72 => ?_) (fun h72 => ?_)
  · have hres := (if_neg h72).symm.trans hres
    refine v_aload_n (pc2 := 83) C 0 dX9_row_82 rfl rfl ?_
    refine vg_X9_field (pc2 := 86) C lf_X9_10 dX9_row_83 rfl ?_
    refine vg_X0_count (pc2 := 89) C lf_X9_89 dX9_row_86 rfl ?_
    refine v_bipush (pc2 := 91) C dX9_row_89 kb_10 rfl ?_
    refine v_icmplt (pc2 := 101) (pc3 := 94) C dX9_row_91 rfl rfl (fun h91 => ?_) (fun h91 => ?_)
    · have hres := (if_pos h91).symm.trans hres
      refine v_aload_n (pc2 := 102) C 0 dX9_row_101 rfl rfl ?_
      refine vg_X9_field (pc2 := 105) C lf_X9_10 dX9_row_102 rfl ?_
      refine vg_X0_rows (pc2 := 108) C lf_X9_93 dX9_row_105 rfl ?_
      refine v_aload_n (pc2 := 109) C 0 dX9_row_108 rfl rfl ?_
      refine vg_X9_field (pc2 := 112) C lf_X9_10 dX9_row_109 rfl ?_
      refine vg_X0_count (pc2 := 115) C lf_X9_89 dX9_row_112 rfl ?_
      have in115 : vp_in (gI σ 2) 10 := vin hs.cnt.1 (by have := t_lt h91 rfl lit_10; omega)
      refine v_aald (pc2 := 116) C in115 dX9_row_115 rfl ?_
      refine v_astore (pc2 := 118) (lv2 := [(6, _), (0, _), (1, _), (2, _), (3, _), (4, _), (5, _)]) C dX9_row_116 (by decide) rfl rfl ?_
      refine v_aload (pc2 := 120) C 0 dX9_row_118 rfl rfl ?_
      refine v_iload_n (pc2 := 121) C 2 dX9_row_120 rfl rfl ?_
      refine v_iload_n (pc2 := 122) C 3 dX9_row_121 rfl rfl ?_
      refine v_iload_n (pc2 := 123) C 4 dX9_row_122 rfl rfl ?_
      refine v_iload (pc2 := 125) C 5 dX9_row_123 rfl rfl ?_
      refine v_iload (pc2 := 127) C 6 dX9_row_125 rfl rfl ?_
      refine v_cVv (pc2 := 130) C kc_X9_97 (mX3_begin (xl X) Λ _ _ (vlt in115) _ _ _ _ _) (wdR Λ _ _ (vlt in115)) rfl (by decide) rfl rfl (Nat.le_of_ble_eq_true rfl) dX9_row_127 rfl ?_
      refine v_aload_n (pc2 := 131) C 1 dX9_row_130 rfl rfl ?_
      refine vg_X9_field (pc2 := 134) C lf_X9_10 dX9_row_131 rfl ?_
      refine v_dup (pc2 := 135) C dX9_row_134 rfl rfl ?_
      refine vg_X0_count (pc2 := 138) C lf_X9_89 dX9_row_135 rfl ?_
      refine v_iconst (pc2 := 139) C dX9_row_138 ki_1 rfl ?_
      refine v_iadd (pc2 := 140) C dX9_row_139 rfl ?_
      refine vp_X0_count (pc2 := 143) C lf_X9_89 dX9_row_140 rfl ?_
      refine v_aload_n (pc2 := 144) C 1 dX9_row_143 rfl rfl ?_
      refine vg_X9_field (pc2 := 147) C lf_X9_10 dX9_row_144 rfl ?_
      refine vg_X0_count (pc2 := 150) C lf_X9_89 dX9_row_147 rfl ?_
      refine v_iconst (pc2 := 151) C dX9_row_150 ki_1 rfl ?_
      refine v_isub (pc2 := 152) C dX9_row_151 rfl ?_
      exact r_iS C E hres dX9_row_152
    · have hres := (if_neg h91).symm.trans hres
      refine v_aload_n (pc2 := 95) C 0 dX9_row_94 rfl rfl ?_
      refine v_ldc (pc2 := 97) C lc_X9_92 dX9_row_95 rfl ?_
      refine v_cVi (pc2 := 100) C kc_X9_81 (mX9_answer (xl X) Λ _ _ an4) (wd0 Λ _) rfl (by decide) rfl rfl (Nat.le_of_ble_eq_true rfl) dX9_row_97 rfl ?_
      exact r_iS C E hres dX9_row_100
  · have hres := (if_pos h72).symm.trans hres
    refine v_aload_n (pc2 := 76) C 0 dX9_row_75 rfl rfl ?_
    refine v_ldc (pc2 := 78) C lc_X9_88 dX9_row_76 rfl ?_
    refine v_cVi (pc2 := 81) C kc_X9_81 (mX9_answer (xl X) Λ _ _ an5) (wd0 Λ _) rfl (by decide) rfl rfl (Nat.le_of_ble_eq_true rfl) dX9_row_78 rfl ?_
    exact r_iS C E hres dX9_row_81
def f9_row (σ : St) (a1 : Int32) (a2 : Int32) (a3 : Int32) (a4 : Int32) (a5 : Int32) : Int32 × St :=
  (if (f9_isKind a1) = (0 : Int32) then (((f9_answer σ (-1000000001 : Int32)).1), ((f9_answer σ (-1000000001 : Int32)).2)) else (if (f9_isWithin a3 (-1000 : Int32) (1000 : Int32)) = (0 : Int32) then (((f9_answer σ (-1000000001 : Int32)).1), ((f9_answer σ (-1000000001 : Int32)).2)) else (if (f9_isWithin a4 (10 : Int32) (400 : Int32)) = (0 : Int32) then (((f9_answer σ (-1000000001 : Int32)).1), ((f9_answer σ (-1000000001 : Int32)).2)) else (if a1 = (1 : Int32) then (if (f9_isStep a5) = (0 : Int32) then (((f9_answer σ (-1000000001 : Int32)).1), ((f9_answer σ (-1000000001 : Int32)).2)) else (if (f9_isWithin a2 (0 : Int32) (10000 : Int32)) = (0 : Int32) then (((f9_answer σ (-1000000001 : Int32)).1), ((f9_answer σ (-1000000001 : Int32)).2)) else (f9_row_B σ a1 a2 a3 a4 a5))) else (if (f9_isWithin a2 (0 : Int32) (10000 : Int32)) = (0 : Int32) then (((f9_answer σ (-1000000001 : Int32)).1), ((f9_answer σ (-1000000001 : Int32)).2)) else (f9_row_B σ a1 a2 a3 a4 a5))))))
set_option maxHeartbeats 4000000 in
set_option maxRecDepth 100000 in
theorem bf9_row {X : CX} {Λ : LY} (C : OK X Λ cX9_row 7 RX9 2 42) {res : Int32 × St} (E : EN X Λ (some .int) (some (.int res.1)) res.2) (σ : St) (a1 : Int32) (a2 : Int32) (a3 : Int32) (a4 : Int32) (a5 : Int32) (hs : Safe σ) (hres : (f9_row σ a1 a2 a3 a4 a5) = res) : VV X Λ 7 0 [(0, .ref (adr Λ 0)), (1, .int (a1)), (2, .int (a2)), (3, .int (a3)), (4, .int (a4)), (5, .int (a5))] [] σ := by
  unfold f9_row at hres
  refine v_iload_n (pc2 := 1) C 1 dX9_row_0 rfl rfl ?_
  refine v_cSi (pc2 := 4) C kc_X9_69 (mX9_isKind (xl X) Λ _ _) (by decide) rfl rfl (Nat.le_of_ble_eq_true rfl) dX9_row_1 rfl ?_
  refine v_ifeq (pc2 := 57) (pc3 := 7) C dX9_row_4 rfl rfl (fun h4 => ?_) (fun h4 => ?_)
  · have hres := (if_pos h4).symm.trans hres
    refine v_aload_n (pc2 := 58) C 0 dX9_row_57 rfl rfl ?_
    refine v_ldc (pc2 := 60) C lc_X9_80 dX9_row_58 rfl ?_
    refine v_cVi (pc2 := 63) C kc_X9_81 (mX9_answer (xl X) Λ _ _ an1) (wd0 Λ _) rfl (by decide) rfl rfl (Nat.le_of_ble_eq_true rfl) dX9_row_60 rfl ?_
    exact r_iS C E hres dX9_row_63
  · have hres := (if_neg h4).symm.trans hres
    refine v_iload_n (pc2 := 8) C 3 dX9_row_7 rfl rfl ?_
    refine v_sipush (pc2 := 11) C dX9_row_8 ks_m1000 rfl ?_
    refine v_sipush (pc2 := 14) C dX9_row_11 ks_1000 rfl ?_
    refine v_cSi (pc2 := 17) C kc_X9_73 (mX9_isWithin (xl X) Λ _ _ _ _) (by decide) rfl rfl (Nat.le_of_ble_eq_true rfl) dX9_row_14 rfl ?_
    refine v_ifeq (pc2 := 57) (pc3 := 20) C dX9_row_17 rfl rfl (fun h17 => ?_) (fun h17 => ?_)
    · have hres := (if_pos h17).symm.trans hres
      refine v_aload_n (pc2 := 58) C 0 dX9_row_57 rfl rfl ?_
      refine v_ldc (pc2 := 60) C lc_X9_80 dX9_row_58 rfl ?_
      refine v_cVi (pc2 := 63) C kc_X9_81 (mX9_answer (xl X) Λ _ _ an1) (wd0 Λ _) rfl (by decide) rfl rfl (Nat.le_of_ble_eq_true rfl) dX9_row_60 rfl ?_
      exact r_iS C E hres dX9_row_63
    · have hres := (if_neg h17).symm.trans hres
      refine v_iload (pc2 := 22) C 4 dX9_row_20 rfl rfl ?_
      refine v_bipush (pc2 := 24) C dX9_row_22 kb_10 rfl ?_
      refine v_sipush (pc2 := 27) C dX9_row_24 ks_400 rfl ?_
      refine v_cSi (pc2 := 30) C kc_X9_73 (mX9_isWithin (xl X) Λ _ _ _ _) (by decide) rfl rfl (Nat.le_of_ble_eq_true rfl) dX9_row_27 rfl ?_
      refine v_ifeq (pc2 := 57) (pc3 := 33) C dX9_row_30 rfl rfl (fun h30 => ?_) (fun h30 => ?_)
      · have hres := (if_pos h30).symm.trans hres
        refine v_aload_n (pc2 := 58) C 0 dX9_row_57 rfl rfl ?_
        refine v_ldc (pc2 := 60) C lc_X9_80 dX9_row_58 rfl ?_
        refine v_cVi (pc2 := 63) C kc_X9_81 (mX9_answer (xl X) Λ _ _ an1) (wd0 Λ _) rfl (by decide) rfl rfl (Nat.le_of_ble_eq_true rfl) dX9_row_60 rfl ?_
        exact r_iS C E hres dX9_row_63
      · have hres := (if_neg h30).symm.trans hres
        refine v_iload_n (pc2 := 34) C 1 dX9_row_33 rfl rfl ?_
        refine v_iconst (pc2 := 35) C dX9_row_34 ki_1 rfl ?_
        refine v_icmpne (pc2 := 46) (pc3 := 38) C dX9_row_35 rfl rfl (fun h35 => ?_) (fun h35 => ?_)
        · have hres := (if_neg h35).symm.trans hres
          refine v_iload_n (pc2 := 47) C 2 dX9_row_46 rfl rfl ?_
          refine v_iconst (pc2 := 48) C dX9_row_47 ki_0 rfl ?_
          refine v_sipush (pc2 := 51) C dX9_row_48 ks_10000 rfl ?_
          refine v_cSi (pc2 := 54) C kc_X9_73 (mX9_isWithin (xl X) Λ _ _ _ _) (by decide) rfl rfl (Nat.le_of_ble_eq_true rfl) dX9_row_51 rfl ?_
          refine v_ifne (pc2 := 64) (pc3 := 57) C dX9_row_54 rfl rfl (fun h54 => ?_) (fun h54 => ?_)
          · have hres := (if_neg h54).symm.trans hres
            exact v_lv [0, 1, 2, 3, 4, 5] rfl (bf9_row_B C E _ _ _ _ _ _ hs  hres)
          · have hres := (if_pos h54).symm.trans hres
            refine v_aload_n (pc2 := 58) C 0 dX9_row_57 rfl rfl ?_
            refine v_ldc (pc2 := 60) C lc_X9_80 dX9_row_58 rfl ?_
            refine v_cVi (pc2 := 63) C kc_X9_81 (mX9_answer (xl X) Λ _ _ an1) (wd0 Λ _) rfl (by decide) rfl rfl (Nat.le_of_ble_eq_true rfl) dX9_row_60 rfl ?_
            exact r_iS C E hres dX9_row_63
        · have hres := (if_pos h35).symm.trans hres
          refine v_iload (pc2 := 40) C 5 dX9_row_38 rfl rfl ?_
          refine v_cSi (pc2 := 43) C kc_X9_77 (mX9_isStep (xl X) Λ _ _) (by decide) rfl rfl (Nat.le_of_ble_eq_true rfl) dX9_row_40 rfl ?_
          refine v_ifeq (pc2 := 57) (pc3 := 46) C dX9_row_43 rfl rfl (fun h43 => ?_) (fun h43 => ?_)
          · have hres := (if_pos h43).symm.trans hres
            refine v_aload_n (pc2 := 58) C 0 dX9_row_57 rfl rfl ?_
            refine v_ldc (pc2 := 60) C lc_X9_80 dX9_row_58 rfl ?_
            refine v_cVi (pc2 := 63) C kc_X9_81 (mX9_answer (xl X) Λ _ _ an1) (wd0 Λ _) rfl (by decide) rfl rfl (Nat.le_of_ble_eq_true rfl) dX9_row_60 rfl ?_
            exact r_iS C E hres dX9_row_63
          · have hres := (if_neg h43).symm.trans hres
            refine v_iload_n (pc2 := 47) C 2 dX9_row_46 rfl rfl ?_
            refine v_iconst (pc2 := 48) C dX9_row_47 ki_0 rfl ?_
            refine v_sipush (pc2 := 51) C dX9_row_48 ks_10000 rfl ?_
            refine v_cSi (pc2 := 54) C kc_X9_73 (mX9_isWithin (xl X) Λ _ _ _ _) (by decide) rfl rfl (Nat.le_of_ble_eq_true rfl) dX9_row_51 rfl ?_
            refine v_ifne (pc2 := 64) (pc3 := 57) C dX9_row_54 rfl rfl (fun h54 => ?_) (fun h54 => ?_)
            · have hres := (if_neg h54).symm.trans hres
              exact v_lv [0, 1, 2, 3, 4, 5] rfl (bf9_row_B C E _ _ _ _ _ _ hs  hres)
            · have hres := (if_pos h54).symm.trans hres
              refine v_aload_n (pc2 := 58) C 0 dX9_row_57 rfl rfl ?_
              refine v_ldc (pc2 := 60) C lc_X9_80 dX9_row_58 rfl ?_
              refine v_cVi (pc2 := 63) C kc_X9_81 (mX9_answer (xl X) Λ _ _ an1) (wd0 Λ _) rfl (by decide) rfl rfl (Nat.le_of_ble_eq_true rfl) dX9_row_60 rfl ?_
              exact r_iS C E hres dX9_row_63
theorem mX9_row (l : Launch) (Λ : LY) (σ : St) (a1 : Int32) (a2 : Int32) (a3 : Int32) (a4 : Int32) (a5 : Int32) (hs : Safe σ) : CT l Λ yX9_row cX9_row 7 (some .int) 2 42 [.ref (adr Λ 0), .int (a1), .int (a2), .int (a3), .int (a4), .int (a5)] σ (some (.int (f9_row σ a1 a2 a3 a4 a5).1)) (f9_row σ a1 a2 a3 a4 a5).2 := by
  refine CT_of (by decide +kernel) (Nat.le_of_ble_eq_true rfl) ?_
  intro X hX C E
  obtain ⟨res, hres⟩ : ∃ r, (f9_row σ a1 a2 a3 a4 a5) = r := ⟨_, rfl⟩
  rw [hres] at E
  exact bf9_row C E _ _ _ _ _ _  hs hres
def f9_drop (σ : St) : Int32 × St :=
  (if (0 : Int32) < (gI σ 2) then ((gI (uI σ 2 ((gI σ 2) - (1 : Int32))) 2), (uI σ 2 ((gI σ 2) - (1 : Int32)))) else (((f9_answer σ (-1000000002 : Int32)).1), ((f9_answer σ (-1000000002 : Int32)).2)))
set_option maxHeartbeats 4000000 in
set_option maxRecDepth 100000 in
theorem bf9_drop {X : CX} {Λ : LY} (C : OK X Λ cX9_drop 1 RX9 1 21) {res : Int32 × St} (E : EN X Λ (some .int) (some (.int res.1)) res.2) (σ : St)  (hres : (f9_drop σ) = res) : VV X Λ 1 0 [(0, .ref (adr Λ 0))] [] σ := by
  unfold f9_drop at hres
  refine v_aload_n (pc2 := 1) C 0 dX9_drop_0 rfl rfl ?_
  refine vg_X9_field (pc2 := 4) C lf_X9_10 dX9_drop_1 rfl ?_
  refine vg_X0_count (pc2 := 7) C lf_X9_89 dX9_drop_4 rfl ?_
  refine v_ifgt (pc2 := 17) (pc3 := 10) C dX9_drop_7 rfl rfl (fun h7 => ?_) (fun h7 => ?_)
  · have hres := (if_pos h7).symm.trans hres
    refine v_aload_n (pc2 := 18) C 0 dX9_drop_17 rfl rfl ?_
    refine vg_X9_field (pc2 := 21) C lf_X9_10 dX9_drop_18 rfl ?_
    refine v_dup (pc2 := 22) C dX9_drop_21 rfl rfl ?_
    refine vg_X0_count (pc2 := 25) C lf_X9_89 dX9_drop_22 rfl ?_
    refine v_iconst (pc2 := 26) C dX9_drop_25 ki_1 rfl ?_
    refine v_isub (pc2 := 27) C dX9_drop_26 rfl ?_
    refine vp_X0_count (pc2 := 30) C lf_X9_89 dX9_drop_27 rfl ?_
    refine v_aload_n (pc2 := 31) C 0 dX9_drop_30 rfl rfl ?_
    refine vg_X9_field (pc2 := 34) C lf_X9_10 dX9_drop_31 rfl ?_
    refine vg_X0_count (pc2 := 37) C lf_X9_89 dX9_drop_34 rfl ?_
    exact r_iS C E hres dX9_drop_37
  · have hres := (if_neg h7).symm.trans hres
    refine v_aload_n (pc2 := 11) C 0 dX9_drop_10 rfl rfl ?_
    refine v_ldc (pc2 := 13) C lc_X9_103 dX9_drop_11 rfl ?_
    refine v_cVi (pc2 := 16) C kc_X9_81 (mX9_answer (xl X) Λ _ _ an2) (wd0 Λ _) rfl (by decide) rfl rfl (Nat.le_of_ble_eq_true rfl) dX9_drop_13 rfl ?_
    exact r_iS C E hres dX9_drop_16
theorem mX9_drop (l : Launch) (Λ : LY) (σ : St)  : CT l Λ yX9_drop cX9_drop 1 (some .int) 1 21 [.ref (adr Λ 0)] σ (some (.int (f9_drop σ).1)) (f9_drop σ).2 := by
  refine CT_of (by decide +kernel) (Nat.le_of_ble_eq_true rfl) ?_
  intro X hX C E
  obtain ⟨res, hres⟩ : ∃ r, (f9_drop σ) = r := ⟨_, rfl⟩
  rw [hres] at E
  exact bf9_drop C E _   hres
def f9_about (σ : St) (a1 : Int32) (a2 : Int32) : Int32 × St :=
  (if (f9_isRow σ a1) = (0 : Int32) then (((f9_answer σ (-1000000001 : Int32)).1), ((f9_answer σ (-1000000001 : Int32)).2)) else (if a2 = (0 : Int32) then ((gA σ 10 (Int32.toNatClampNeg a1)), σ) else (if a2 = (1 : Int32) then ((gA σ 11 (Int32.toNatClampNeg a1)), σ) else (if a2 = (2 : Int32) then ((gA σ 12 (Int32.toNatClampNeg a1)), σ) else (if a2 = (3 : Int32) then ((gA σ 13 (Int32.toNatClampNeg a1)), σ) else (if a2 = (4 : Int32) then ((gA σ 14 (Int32.toNatClampNeg a1)), σ) else (if a2 = (5 : Int32) then ((gA σ 15 (Int32.toNatClampNeg a1)), σ) else (if a2 = (6 : Int32) then ((gA σ 16 (Int32.toNatClampNeg a1)), σ) else (((f9_answer σ (-1000000001 : Int32)).1), ((f9_answer σ (-1000000001 : Int32)).2))))))))))
set_option maxHeartbeats 4000000 in
set_option maxRecDepth 100000 in
theorem bf9_about {X : CX} {Λ : LY} (C : OK X Λ cX9_about 4 RX9 2 43) {res : Int32 × St} (E : EN X Λ (some .int) (some (.int res.1)) res.2) (σ : St) (a1 : Int32) (a2 : Int32) (hs : Safe σ) (hres : (f9_about σ a1 a2) = res) : VV X Λ 4 0 [(0, .ref (adr Λ 0)), (1, .int (a1)), (2, .int (a2))] [] σ := by
  unfold f9_about at hres
  refine v_aload_n (pc2 := 1) C 0 dX9_about_0 rfl rfl ?_
  refine v_iload_n (pc2 := 2) C 1 dX9_about_1 rfl rfl ?_
  refine v_cVi (pc2 := 5) C kc_X9_104 (mX9_isRow (xl X) Λ _ _) (wd0 Λ _) rfl (by decide) rfl rfl (Nat.le_of_ble_eq_true rfl) dX9_about_2 rfl ?_
  refine v_ifne (pc2 := 15) (pc3 := 8) C dX9_about_5 rfl rfl (fun h5 => ?_) (fun h5 => ?_)
  · have hres := (if_neg h5).symm.trans hres
    refine v_aload_n (pc2 := 16) C 0 dX9_about_15 rfl rfl ?_
    refine vg_X9_field (pc2 := 19) C lf_X9_10 dX9_about_16 rfl ?_
    refine vg_X0_rows (pc2 := 22) C lf_X9_93 dX9_about_19 rfl ?_
    refine v_iload_n (pc2 := 23) C 1 dX9_about_22 rfl rfl ?_
    have in23 : vp_in a1 10 := isRow_in hs h5
    refine v_aald (pc2 := 24) C in23 dX9_about_23 rfl ?_
    refine v_astore_n (pc2 := 25) (lv2 := [(3, _), (0, _), (1, _), (2, _)]) C dX9_about_24 (by decide) rfl rfl ?_
    refine v_iload_n (pc2 := 26) C 3 dX9_about_25 rfl rfl ?_
    by_cases s26_0 : a2 = (0 : Int32)
    · have hres := (if_pos s26_0).symm.trans hres
      refine v_tabI (pc2 := 68) (j := 0) C dX9_about_26 s26_0 (by decide +kernel) (by decide) rfl rfl ?_
      refine v_aload_n (pc2 := 69) C 0 dX9_about_68 rfl rfl ?_
      refine vg_X3_kind (pc2 := 72) C (vlt in23) lf_X9_107 dX9_about_69 rfl ?_
      exact r_iS C E hres dX9_about_72
    have hres := (if_neg s26_0).symm.trans hres
    by_cases s26_1 : a2 = (1 : Int32)
    · have hres := (if_pos s26_1).symm.trans hres
      refine v_tabI (pc2 := 73) (j := 1) C dX9_about_26 s26_1 (by decide +kernel) (by decide) rfl rfl ?_
      refine v_aload_n (pc2 := 74) C 0 dX9_about_73 rfl rfl ?_
      refine vg_X3_place (pc2 := 77) C (vlt in23) lf_X9_110 dX9_about_74 rfl ?_
      exact r_iS C E hres dX9_about_77
    have hres := (if_neg s26_1).symm.trans hres
    by_cases s26_2 : a2 = (2 : Int32)
    · have hres := (if_pos s26_2).symm.trans hres
      refine v_tabI (pc2 := 78) (j := 2) C dX9_about_26 s26_2 (by decide +kernel) (by decide) rfl rfl ?_
      refine v_aload_n (pc2 := 79) C 0 dX9_about_78 rfl rfl ?_
      refine vg_X3_height (pc2 := 82) C (vlt in23) lf_X9_113 dX9_about_79 rfl ?_
      exact r_iS C E hres dX9_about_82
    have hres := (if_neg s26_2).symm.trans hres
    by_cases s26_3 : a2 = (3 : Int32)
    · have hres := (if_pos s26_3).symm.trans hres
      refine v_tabI (pc2 := 83) (j := 3) C dX9_about_26 s26_3 (by decide +kernel) (by decide) rfl rfl ?_
      refine v_aload_n (pc2 := 84) C 0 dX9_about_83 rfl rfl ?_
      refine vg_X3_width (pc2 := 87) C (vlt in23) lf_X9_116 dX9_about_84 rfl ?_
      exact r_iS C E hres dX9_about_87
    have hres := (if_neg s26_3).symm.trans hres
    by_cases s26_4 : a2 = (4 : Int32)
    · have hres := (if_pos s26_4).symm.trans hres
      refine v_tabI (pc2 := 88) (j := 4) C dX9_about_26 s26_4 (by decide +kernel) (by decide) rfl rfl ?_
      refine v_aload_n (pc2 := 89) C 0 dX9_about_88 rfl rfl ?_
      refine vg_X3_dirt (pc2 := 92) C (vlt in23) lf_X9_119 dX9_about_89 rfl ?_
      exact r_iS C E hres dX9_about_92
    have hres := (if_neg s26_4).symm.trans hres
    by_cases s26_5 : a2 = (5 : Int32)
    · have hres := (if_pos s26_5).symm.trans hres
      refine v_tabI (pc2 := 93) (j := 5) C dX9_about_26 s26_5 (by decide +kernel) (by decide) rfl rfl ?_
      refine v_aload_n (pc2 := 94) C 0 dX9_about_93 rfl rfl ?_
      refine vg_X3_step (pc2 := 97) C (vlt in23) lf_X9_122 dX9_about_94 rfl ?_
      exact r_iS C E hres dX9_about_97
    have hres := (if_neg s26_5).symm.trans hres
    by_cases s26_6 : a2 = (6 : Int32)
    · have hres := (if_pos s26_6).symm.trans hres
      refine v_tabI (pc2 := 98) (j := 6) C dX9_about_26 s26_6 (by decide +kernel) (by decide) rfl rfl ?_
      refine v_aload_n (pc2 := 99) C 0 dX9_about_98 rfl rfl ?_
      refine vg_X3_inString (pc2 := 102) C (vlt in23) lf_X9_125 dX9_about_99 rfl ?_
      exact r_iS C E hres dX9_about_102
    have hres := (if_neg s26_6).symm.trans hres
    refine v_tabO (pc2 := 103) C dX9_about_26 (by have e0 := t_neq s26_0 rfl (show ((0 : Int32)).toInt = 0 by decide +kernel); have e1 := t_neq s26_1 rfl (show ((1 : Int32)).toInt = 1 by decide +kernel); have e2 := t_neq s26_2 rfl (show ((2 : Int32)).toInt = 2 by decide +kernel); have e3 := t_neq s26_3 rfl (show ((3 : Int32)).toInt = 3 by decide +kernel); have e4 := t_neq s26_4 rfl (show ((4 : Int32)).toInt = 4 by decide +kernel); have e5 := t_neq s26_5 rfl (show ((5 : Int32)).toInt = 5 by decide +kernel); have e6 := t_neq s26_6 rfl (show ((6 : Int32)).toInt = 6 by decide +kernel); omega) rfl ?_
    refine v_aload_n (pc2 := 104) C 1 dX9_about_103 rfl rfl ?_
    refine v_ldc (pc2 := 106) C lc_X9_80 dX9_about_104 rfl ?_
    refine v_cVi (pc2 := 109) C kc_X9_81 (mX9_answer (xl X) Λ _ _ an1) (wd0 Λ _) rfl (by decide) rfl rfl (Nat.le_of_ble_eq_true rfl) dX9_about_106 rfl ?_
    exact r_iS C E hres dX9_about_109
  · have hres := (if_pos h5).symm.trans hres
    refine v_aload_n (pc2 := 9) C 0 dX9_about_8 rfl rfl ?_
    refine v_ldc (pc2 := 11) C lc_X9_80 dX9_about_9 rfl ?_
    refine v_cVi (pc2 := 14) C kc_X9_81 (mX9_answer (xl X) Λ _ _ an1) (wd0 Λ _) rfl (by decide) rfl rfl (Nat.le_of_ble_eq_true rfl) dX9_about_11 rfl ?_
    exact r_iS C E hres dX9_about_14
theorem mX9_about (l : Launch) (Λ : LY) (σ : St) (a1 : Int32) (a2 : Int32) (hs : Safe σ) : CT l Λ yX9_about cX9_about 4 (some .int) 2 43 [.ref (adr Λ 0), .int (a1), .int (a2)] σ (some (.int (f9_about σ a1 a2).1)) (f9_about σ a1 a2).2 := by
  refine CT_of (by decide +kernel) (Nat.le_of_ble_eq_true rfl) ?_
  intro X hX C E
  obtain ⟨res, hres⟩ : ∃ r, (f9_about σ a1 a2) = r := ⟨_, rfl⟩
  rw [hres] at E
  exact bf9_about C E _ _ _  hs hres
def f9_as (σ : St) (a1 : Int32) (a2 : Int32) : Int32 × St :=
  (if (f9_isRow σ a1) = (0 : Int32) then (((f9_answer σ (-1000000001 : Int32)).1), ((f9_answer σ (-1000000001 : Int32)).2)) else (if (f9_isKind a2) = (0 : Int32) then (((f9_answer σ (-1000000001 : Int32)).1), ((f9_answer σ (-1000000001 : Int32)).2)) else (if (f3_isOf σ (Int32.toNatClampNeg a1) a2) = (0 : Int32) then (((f9_answer σ (-1000000003 : Int32)).1), ((f9_answer σ (-1000000003 : Int32)).2)) else ((gA σ 15 (Int32.toNatClampNeg a1)), σ))))
set_option maxHeartbeats 4000000 in
set_option maxRecDepth 100000 in
theorem bf9_as {X : CX} {Λ : LY} (C : OK X Λ cX9_as 4 RX9 2 43) {res : Int32 × St} (E : EN X Λ (some .int) (some (.int res.1)) res.2) (σ : St) (a1 : Int32) (a2 : Int32) (hs : Safe σ) (hres : (f9_as σ a1 a2) = res) : VV X Λ 4 0 [(0, .ref (adr Λ 0)), (1, .int (a1)), (2, .int (a2))] [] σ := by
  unfold f9_as at hres
  refine v_aload_n (pc2 := 1) C 0 dX9_as_0 rfl rfl ?_
  refine v_iload_n (pc2 := 2) C 1 dX9_as_1 rfl rfl ?_
  refine v_cVi (pc2 := 5) C kc_X9_104 (mX9_isRow (xl X) Λ _ _) (wd0 Λ _) rfl (by decide) rfl rfl (Nat.le_of_ble_eq_true rfl) dX9_as_2 rfl ?_
  refine v_ifeq (pc2 := 15) (pc3 := 8) C dX9_as_5 rfl rfl (fun h5 => ?_) (fun h5 => ?_)
  · have hres := (if_pos h5).symm.trans hres
    refine v_aload_n (pc2 := 16) C 0 dX9_as_15 rfl rfl ?_
    refine v_ldc (pc2 := 18) C lc_X9_80 dX9_as_16 rfl ?_
    refine v_cVi (pc2 := 21) C kc_X9_81 (mX9_answer (xl X) Λ _ _ an1) (wd0 Λ _) rfl (by decide) rfl rfl (Nat.le_of_ble_eq_true rfl) dX9_as_18 rfl ?_
    exact r_iS C E hres dX9_as_21
  · have hres := (if_neg h5).symm.trans hres
    refine v_iload_n (pc2 := 9) C 2 dX9_as_8 rfl rfl ?_
    refine v_cSi (pc2 := 12) C kc_X9_69 (mX9_isKind (xl X) Λ _ _) (by decide) rfl rfl (Nat.le_of_ble_eq_true rfl) dX9_as_9 rfl ?_
    refine v_ifne (pc2 := 22) (pc3 := 15) C dX9_as_12 rfl rfl (fun h12 => ?_) (fun h12 => ?_)
    · have hres := (if_neg h12).symm.trans hres
      refine v_aload_n (pc2 := 23) C 0 dX9_as_22 rfl rfl ?_
      refine vg_X9_field (pc2 := 26) C lf_X9_10 dX9_as_23 rfl ?_
      refine vg_X0_rows (pc2 := 29) C lf_X9_93 dX9_as_26 rfl ?_
      refine v_iload_n (pc2 := 30) C 1 dX9_as_29 rfl rfl ?_
      have in30 : vp_in a1 10 := isRow_in hs h5
      refine v_aald (pc2 := 31) C in30 dX9_as_30 rfl ?_
      refine v_astore_n (pc2 := 32) (lv2 := [(3, _), (0, _), (1, _), (2, _)]) C dX9_as_31 (by decide) rfl rfl ?_
      refine v_aload_n (pc2 := 33) C 0 dX9_as_32 rfl rfl ?_
      refine v_iload_n (pc2 := 34) C 3 dX9_as_33 rfl rfl ?_
      refine v_cVi (pc2 := 37) C kc_X9_128 (mX3_isOf (xl X) Λ _ _ (vlt in30) _) (wdR Λ _ _ (vlt in30)) rfl (by decide) rfl rfl (Nat.le_of_ble_eq_true rfl) dX9_as_34 rfl ?_
      refine v_ifne (pc2 := 47) (pc3 := 40) C dX9_as_37 rfl rfl (fun h37 => ?_) (fun h37 => ?_)
      · have hres := (if_neg h37).symm.trans hres
        refine v_aload_n (pc2 := 48) C 0 dX9_as_47 rfl rfl ?_
        refine vg_X3_step (pc2 := 51) C (vlt in30) lf_X9_122 dX9_as_48 rfl ?_
        exact r_iS C E hres dX9_as_51
      · have hres := (if_pos h37).symm.trans hres
        refine v_aload_n (pc2 := 41) C 1 dX9_as_40 rfl rfl ?_
        refine v_ldc (pc2 := 43) C lc_X9_131 dX9_as_41 rfl ?_
        refine v_cVi (pc2 := 46) C kc_X9_81 (mX9_answer (xl X) Λ _ _ an3) (wd0 Λ _) rfl (by decide) rfl rfl (Nat.le_of_ble_eq_true rfl) dX9_as_43 rfl ?_
        exact r_iS C E hres dX9_as_46
    · have hres := (if_pos h12).symm.trans hres
      refine v_aload_n (pc2 := 16) C 0 dX9_as_15 rfl rfl ?_
      refine v_ldc (pc2 := 18) C lc_X9_80 dX9_as_16 rfl ?_
      refine v_cVi (pc2 := 21) C kc_X9_81 (mX9_answer (xl X) Λ _ _ an1) (wd0 Λ _) rfl (by decide) rfl rfl (Nat.le_of_ble_eq_true rfl) dX9_as_18 rfl ?_
      exact r_iS C E hres dX9_as_21
theorem mX9_as (l : Launch) (Λ : LY) (σ : St) (a1 : Int32) (a2 : Int32) (hs : Safe σ) : CT l Λ yX9_as cX9_as 4 (some .int) 2 43 [.ref (adr Λ 0), .int (a1), .int (a2)] σ (some (.int (f9_as σ a1 a2).1)) (f9_as σ a1 a2).2 := by
  refine CT_of (by decide +kernel) (Nat.le_of_ble_eq_true rfl) ?_
  intro X hX C E
  obtain ⟨res, hres⟩ : ∃ r, (f9_as σ a1 a2) = r := ⟨_, rfl⟩
  rw [hres] at E
  exact bf9_as C E _ _ _  hs hres
def f9_turn (σ : St) (a1 : Int32) (a2 : Int32) : Int32 × St :=
  (if (f9_isRow σ a1) = (0 : Int32) then (((f9_answer σ (-1000000001 : Int32)).1), ((f9_answer σ (-1000000001 : Int32)).2)) else (if (f9_isStep a2) = (0 : Int32) then (((f9_answer σ (-1000000001 : Int32)).1), ((f9_answer σ (-1000000001 : Int32)).2)) else (if (gA σ 10 (Int32.toNatClampNeg a1)) = (1 : Int32) then (((f9_answer σ (-1000000003 : Int32)).1), ((f9_answer σ (-1000000003 : Int32)).2)) else ((gA σ 15 (Int32.toNatClampNeg a1)), (uA σ 15 (Int32.toNatClampNeg a1) a2)))))
set_option maxHeartbeats 4000000 in
set_option maxRecDepth 100000 in
theorem bf9_turn {X : CX} {Λ : LY} (C : OK X Λ cX9_turn 5 RX9 2 43) {res : Int32 × St} (E : EN X Λ (some .int) (some (.int res.1)) res.2) (σ : St) (a1 : Int32) (a2 : Int32) (hs : Safe σ) (hres : (f9_turn σ a1 a2) = res) : VV X Λ 5 0 [(0, .ref (adr Λ 0)), (1, .int (a1)), (2, .int (a2))] [] σ := by
  unfold f9_turn at hres
  refine v_aload_n (pc2 := 1) C 0 dX9_turn_0 rfl rfl ?_
  refine v_iload_n (pc2 := 2) C 1 dX9_turn_1 rfl rfl ?_
  refine v_cVi (pc2 := 5) C kc_X9_104 (mX9_isRow (xl X) Λ _ _) (wd0 Λ _) rfl (by decide) rfl rfl (Nat.le_of_ble_eq_true rfl) dX9_turn_2 rfl ?_
  refine v_ifeq (pc2 := 15) (pc3 := 8) C dX9_turn_5 rfl rfl (fun h5 => ?_) (fun h5 => ?_)
  · have hres := (if_pos h5).symm.trans hres
    refine v_aload_n (pc2 := 16) C 0 dX9_turn_15 rfl rfl ?_
    refine v_ldc (pc2 := 18) C lc_X9_80 dX9_turn_16 rfl ?_
    refine v_cVi (pc2 := 21) C kc_X9_81 (mX9_answer (xl X) Λ _ _ an1) (wd0 Λ _) rfl (by decide) rfl rfl (Nat.le_of_ble_eq_true rfl) dX9_turn_18 rfl ?_
    exact r_iS C E hres dX9_turn_21
  · have hres := (if_neg h5).symm.trans hres
    refine v_iload_n (pc2 := 9) C 2 dX9_turn_8 rfl rfl ?_
    refine v_cSi (pc2 := 12) C kc_X9_77 (mX9_isStep (xl X) Λ _ _) (by decide) rfl rfl (Nat.le_of_ble_eq_true rfl) dX9_turn_9 rfl ?_
    refine v_ifne (pc2 := 22) (pc3 := 15) C dX9_turn_12 rfl rfl (fun h12 => ?_) (fun h12 => ?_)
    · have hres := (if_neg h12).symm.trans hres
      refine v_aload_n (pc2 := 23) C 0 dX9_turn_22 rfl rfl ?_
      refine vg_X9_field (pc2 := 26) C lf_X9_10 dX9_turn_23 rfl ?_
      refine vg_X0_rows (pc2 := 29) C lf_X9_93 dX9_turn_26 rfl ?_
      refine v_iload_n (pc2 := 30) C 1 dX9_turn_29 rfl rfl ?_
      have in30 : vp_in a1 10 := isRow_in hs h5
      refine v_aald (pc2 := 31) C in30 dX9_turn_30 rfl ?_
      refine v_astore_n (pc2 := 32) (lv2 := [(3, _), (0, _), (1, _), (2, _)]) C dX9_turn_31 (by decide) rfl rfl ?_
      refine v_aload_n (pc2 := 33) C 0 dX9_turn_32 rfl rfl ?_
      refine vg_X3_kind (pc2 := 36) C (vlt in30) lf_X9_107 dX9_turn_33 rfl ?_
      refine v_iconst (pc2 := 37) C dX9_turn_36 ki_1 rfl ?_
      refine v_icmpne (pc2 := 47) (pc3 := 40) C dX9_turn_37 rfl rfl (fun h37 => ?_) (fun h37 => ?_)
      · have hres := (if_neg h37).symm.trans hres
        refine v_aload_n (pc2 := 48) C 0 dX9_turn_47 rfl rfl ?_
        refine vg_X3_step (pc2 := 51) C (vlt in30) lf_X9_122 dX9_turn_48 rfl ?_
        refine v_istore (pc2 := 53) (lv2 := [(4, _), (3, _), (0, _), (1, _), (2, _)]) C dX9_turn_51 (by decide) rfl rfl ?_
        refine v_aload_n (pc2 := 54) C 1 dX9_turn_53 rfl rfl ?_
        refine v_iload_n (pc2 := 55) C 4 dX9_turn_54 rfl rfl ?_
        refine vp_X3_step (pc2 := 58) C (vlt in30) lf_X9_122 dX9_turn_55 rfl ?_
        refine v_iload (pc2 := 60) C 0 dX9_turn_58 rfl rfl ?_
        exact r_iS C E hres dX9_turn_60
      · have hres := (if_pos h37).symm.trans hres
        refine v_aload_n (pc2 := 41) C 1 dX9_turn_40 rfl rfl ?_
        refine v_ldc (pc2 := 43) C lc_X9_131 dX9_turn_41 rfl ?_
        refine v_cVi (pc2 := 46) C kc_X9_81 (mX9_answer (xl X) Λ _ _ an3) (wd0 Λ _) rfl (by decide) rfl rfl (Nat.le_of_ble_eq_true rfl) dX9_turn_43 rfl ?_
        exact r_iS C E hres dX9_turn_46
    · have hres := (if_pos h12).symm.trans hres
      refine v_aload_n (pc2 := 16) C 0 dX9_turn_15 rfl rfl ?_
      refine v_ldc (pc2 := 18) C lc_X9_80 dX9_turn_16 rfl ?_
      refine v_cVi (pc2 := 21) C kc_X9_81 (mX9_answer (xl X) Λ _ _ an1) (wd0 Λ _) rfl (by decide) rfl rfl (Nat.le_of_ble_eq_true rfl) dX9_turn_18 rfl ?_
      exact r_iS C E hres dX9_turn_21
theorem mX9_turn (l : Launch) (Λ : LY) (σ : St) (a1 : Int32) (a2 : Int32) (hs : Safe σ) : CT l Λ yX9_turn cX9_turn 5 (some .int) 2 43 [.ref (adr Λ 0), .int (a1), .int (a2)] σ (some (.int (f9_turn σ a1 a2).1)) (f9_turn σ a1 a2).2 := by
  refine CT_of (by decide +kernel) (Nat.le_of_ble_eq_true rfl) ?_
  intro X hX C E
  obtain ⟨res, hres⟩ : ∃ r, (f9_turn σ a1 a2) = r := ⟨_, rfl⟩
  rw [hres] at E
  exact bf9_turn C E _ _ _  hs hres
def f9_dust (σ : St) (a1 : Int32) (a2 : Int32) : Int32 × St :=
  (if (f9_isRow σ a1) = (0 : Int32) then (((f9_answer σ (-1000000001 : Int32)).1), ((f9_answer σ (-1000000001 : Int32)).2)) else (if (f9_isWithin a2 (0 : Int32) (1000 : Int32)) = (0 : Int32) then (((f9_answer σ (-1000000001 : Int32)).1), ((f9_answer σ (-1000000001 : Int32)).2)) else ((gA σ 14 (Int32.toNatClampNeg a1)), (uA σ 14 (Int32.toNatClampNeg a1) a2))))
set_option maxHeartbeats 4000000 in
set_option maxRecDepth 100000 in
theorem bf9_dust {X : CX} {Λ : LY} (C : OK X Λ cX9_dust 5 RX9 2 43) {res : Int32 × St} (E : EN X Λ (some .int) (some (.int res.1)) res.2) (σ : St) (a1 : Int32) (a2 : Int32) (hs : Safe σ) (hres : (f9_dust σ a1 a2) = res) : VV X Λ 5 0 [(0, .ref (adr Λ 0)), (1, .int (a1)), (2, .int (a2))] [] σ := by
  unfold f9_dust at hres
  refine v_aload_n (pc2 := 1) C 0 dX9_dust_0 rfl rfl ?_
  refine v_iload_n (pc2 := 2) C 1 dX9_dust_1 rfl rfl ?_
  refine v_cVi (pc2 := 5) C kc_X9_104 (mX9_isRow (xl X) Λ _ _) (wd0 Λ _) rfl (by decide) rfl rfl (Nat.le_of_ble_eq_true rfl) dX9_dust_2 rfl ?_
  refine v_ifeq (pc2 := 19) (pc3 := 8) C dX9_dust_5 rfl rfl (fun h5 => ?_) (fun h5 => ?_)
  · have hres := (if_pos h5).symm.trans hres
    refine v_aload_n (pc2 := 20) C 0 dX9_dust_19 rfl rfl ?_
    refine v_ldc (pc2 := 22) C lc_X9_80 dX9_dust_20 rfl ?_
    refine v_cVi (pc2 := 25) C kc_X9_81 (mX9_answer (xl X) Λ _ _ an1) (wd0 Λ _) rfl (by decide) rfl rfl (Nat.le_of_ble_eq_true rfl) dX9_dust_22 rfl ?_
    exact r_iS C E hres dX9_dust_25
  · have hres := (if_neg h5).symm.trans hres
    refine v_iload_n (pc2 := 9) C 2 dX9_dust_8 rfl rfl ?_
    refine v_iconst (pc2 := 10) C dX9_dust_9 ki_0 rfl ?_
    refine v_sipush (pc2 := 13) C dX9_dust_10 ks_1000 rfl ?_
    refine v_cSi (pc2 := 16) C kc_X9_73 (mX9_isWithin (xl X) Λ _ _ _ _) (by decide) rfl rfl (Nat.le_of_ble_eq_true rfl) dX9_dust_13 rfl ?_
    refine v_ifne (pc2 := 26) (pc3 := 19) C dX9_dust_16 rfl rfl (fun h16 => ?_) (fun h16 => ?_)
    · have hres := (if_neg h16).symm.trans hres
      refine v_aload_n (pc2 := 27) C 0 dX9_dust_26 rfl rfl ?_
      refine vg_X9_field (pc2 := 30) C lf_X9_10 dX9_dust_27 rfl ?_
      refine vg_X0_rows (pc2 := 33) C lf_X9_93 dX9_dust_30 rfl ?_
      refine v_iload_n (pc2 := 34) C 1 dX9_dust_33 rfl rfl ?_
      have in34 : vp_in a1 10 := isRow_in hs h5
      refine v_aald (pc2 := 35) C in34 dX9_dust_34 rfl ?_
      refine v_astore_n (pc2 := 36) (lv2 := [(3, _), (0, _), (1, _), (2, _)]) C dX9_dust_35 (by decide) rfl rfl ?_
      refine v_aload_n (pc2 := 37) C 0 dX9_dust_36 rfl rfl ?_
      refine vg_X3_dirt (pc2 := 40) C (vlt in34) lf_X9_119 dX9_dust_37 rfl ?_
      refine v_istore (pc2 := 42) (lv2 := [(4, _), (3, _), (0, _), (1, _), (2, _)]) C dX9_dust_40 (by decide) rfl rfl ?_
      refine v_aload_n (pc2 := 43) C 1 dX9_dust_42 rfl rfl ?_
      refine v_iload_n (pc2 := 44) C 4 dX9_dust_43 rfl rfl ?_
      refine vp_X3_dirt (pc2 := 47) C (vlt in34) lf_X9_119 dX9_dust_44 rfl ?_
      refine v_iload (pc2 := 49) C 0 dX9_dust_47 rfl rfl ?_
      exact r_iS C E hres dX9_dust_49
    · have hres := (if_pos h16).symm.trans hres
      refine v_aload_n (pc2 := 20) C 0 dX9_dust_19 rfl rfl ?_
      refine v_ldc (pc2 := 22) C lc_X9_80 dX9_dust_20 rfl ?_
      refine v_cVi (pc2 := 25) C kc_X9_81 (mX9_answer (xl X) Λ _ _ an1) (wd0 Λ _) rfl (by decide) rfl rfl (Nat.le_of_ble_eq_true rfl) dX9_dust_22 rfl ?_
      exact r_iS C E hres dX9_dust_25
theorem mX9_dust (l : Launch) (Λ : LY) (σ : St) (a1 : Int32) (a2 : Int32) (hs : Safe σ) : CT l Λ yX9_dust cX9_dust 5 (some .int) 2 43 [.ref (adr Λ 0), .int (a1), .int (a2)] σ (some (.int (f9_dust σ a1 a2).1)) (f9_dust σ a1 a2).2 := by
  refine CT_of (by decide +kernel) (Nat.le_of_ble_eq_true rfl) ?_
  intro X hX C E
  obtain ⟨res, hres⟩ : ∃ r, (f9_dust σ a1 a2) = r := ⟨_, rfl⟩
  rw [hres] at E
  exact bf9_dust C E _ _ _  hs hres
def f9_sun (σ : St) (a1 : Int32) (a2 : Int32) (a3 : Int32) : Int32 × St :=
  (if (f9_isSunWay a1 a2 a3) = (0 : Int32) then (((f9_answer σ (-1000000001 : Int32)).1), ((f9_answer σ (-1000000001 : Int32)).2)) else (if (f4_isNight (f4_put σ a1 a2 a3) a1) = (0 : Int32) then ((1 : Int32), (f4_put σ a1 a2 a3)) else ((0 : Int32), (f4_put σ a1 a2 a3))))
set_option maxHeartbeats 4000000 in
set_option maxRecDepth 100000 in
theorem bf9_sun {X : CX} {Λ : LY} (C : OK X Λ cX9_sun 4 RX9 3 64) {res : Int32 × St} (E : EN X Λ (some .int) (some (.int res.1)) res.2) (σ : St) (a1 : Int32) (a2 : Int32) (a3 : Int32)  (hres : (f9_sun σ a1 a2 a3) = res) : VV X Λ 4 0 [(0, .ref (adr Λ 0)), (1, .int (a1)), (2, .int (a2)), (3, .int (a3))] [] σ := by
  unfold f9_sun at hres
  refine v_iload_n (pc2 := 1) C 1 dX9_sun_0 rfl rfl ?_
  refine v_iload_n (pc2 := 2) C 2 dX9_sun_1 rfl rfl ?_
  refine v_iload_n (pc2 := 3) C 3 dX9_sun_2 rfl rfl ?_
  refine v_cSi (pc2 := 6) C kc_X9_132 (mX9_isSunWay (xl X) Λ _ _ _ _) (by decide) rfl rfl (Nat.le_of_ble_eq_true rfl) dX9_sun_3 rfl ?_
  refine v_ifne (pc2 := 16) (pc3 := 9) C dX9_sun_6 rfl rfl (fun h6 => ?_) (fun h6 => ?_)
  · have hres := (if_neg h6).symm.trans hres
    refine v_aload_n (pc2 := 17) C 0 dX9_sun_16 rfl rfl ?_
    refine vg_X9_sky (pc2 := 20) C lf_X9_19 dX9_sun_17 rfl ?_
    refine v_iload_n (pc2 := 21) C 1 dX9_sun_20 rfl rfl ?_
    refine v_iload_n (pc2 := 22) C 2 dX9_sun_21 rfl rfl ?_
    refine v_iload_n (pc2 := 23) C 3 dX9_sun_22 rfl rfl ?_
    refine v_cVv (pc2 := 26) C kc_X9_135 (mX4_put (xl X) Λ _ _ _ _ (isSunWay_in h6)) (wd2 Λ _) rfl (by decide) rfl rfl (Nat.le_of_ble_eq_true rfl) dX9_sun_23 rfl ?_
    refine v_aload_n (pc2 := 27) C 0 dX9_sun_26 rfl rfl ?_
    refine vg_X9_sky (pc2 := 30) C lf_X9_19 dX9_sun_27 rfl ?_
    refine v_iload_n (pc2 := 31) C 1 dX9_sun_30 rfl rfl ?_
    refine v_cVi (pc2 := 34) C kc_X9_139 (mX4_isNight (xl X) Λ _ _ (isSunWay_in h6)) (wd2 Λ _) rfl (by decide) rfl rfl (Nat.le_of_ble_eq_true rfl) dX9_sun_31 rfl ?_
    refine v_ifeq (pc2 := 41) (pc3 := 37) C dX9_sun_34 rfl rfl (fun h34 => ?_) (fun h34 => ?_)
    · have hres := (if_pos h34).symm.trans hres
      refine v_iconst (pc2 := 42) C dX9_sun_41 ki_1 rfl ?_
      exact r_iS C E hres dX9_sun_42
    · have hres := (if_neg h34).symm.trans hres
      refine v_iconst (pc2 := 38) C dX9_sun_37 ki_0 rfl ?_
      refine v_goto (pc2 := 42) C dX9_sun_38 rfl ?_
      exact r_iS C E hres dX9_sun_42
  · have hres := (if_pos h6).symm.trans hres
    refine v_aload_n (pc2 := 10) C 0 dX9_sun_9 rfl rfl ?_
    refine v_ldc (pc2 := 12) C lc_X9_80 dX9_sun_10 rfl ?_
    refine v_cVi (pc2 := 15) C kc_X9_81 (mX9_answer (xl X) Λ _ _ an1) (wd0 Λ _) rfl (by decide) rfl rfl (Nat.le_of_ble_eq_true rfl) dX9_sun_12 rfl ?_
    exact r_iS C E hres dX9_sun_15
theorem mX9_sun (l : Launch) (Λ : LY) (σ : St) (a1 : Int32) (a2 : Int32) (a3 : Int32)  : CT l Λ yX9_sun cX9_sun 4 (some .int) 3 64 [.ref (adr Λ 0), .int (a1), .int (a2), .int (a3)] σ (some (.int (f9_sun σ a1 a2 a3).1)) (f9_sun σ a1 a2 a3).2 := by
  refine CT_of (by decide +kernel) (Nat.le_of_ble_eq_true rfl) ?_
  intro X hX C E
  obtain ⟨res, hres⟩ : ∃ r, (f9_sun σ a1 a2 a3) = r := ⟨_, rfl⟩
  rw [hres] at E
  exact bf9_sun C E _ _ _ _   hres
def f9_suns_B (to : Int32) : Nat → St → Int32 → Int32 × St
  | 0, σ, _ => (0, σ)
  | n + 1, σ, j => (if to ≤ (j + (2 : Int32)) then ((to / (3 : Int32)), σ) else (f9_suns_B to n (f4_put σ (gA σ 8 (Int32.toNatClampNeg j)) (gA σ 8 (Int32.toNatClampNeg (j + (1 : Int32)))) (gA σ 8 (Int32.toNatClampNeg (j + (2 : Int32))))) (j + (3 : Int32))))
set_option maxHeartbeats 4000000 in
set_option maxRecDepth 100000 in
theorem bf9_suns_B {X : CX} {Λ : LY} (C : OK X Λ cX9_suns 3 RX9 3 64) {res : Int32 × St} (E : EN X Λ (some .int) (some (.int res.1)) res.2) (to : Int32)  : ∀ (n : Nat) (σ : St) (j : Int32), (ht : 0 ≤ to.toInt ∧ to.toInt ≤ 72) → (hu : U3 j n) → (ha : AllT σ to) → (f9_suns_B to n σ j) = res → VV X Λ 3 89 [(0, .ref (adr Λ 0)), (1, .int (to)), (2, .int (j))] [] σ := by
  intro n
  induction n with
  | zero => intro σ j ht hu ha hres; exact absurd hu (fun h => h.z)
  | succ n ih =>
    intro σ j ht hu ha hres
    rw [f9_suns_B] at hres
    refine v_iload_n (pc2 := 90) C 2 dX9_suns_89 rfl rfl ?_
    refine v_iconst (pc2 := 91) C dX9_suns_90 ki_2 rfl ?_
    refine v_iadd (pc2 := 92) C dX9_suns_91 rfl ?_
    refine v_iload_n (pc2 := 93) C 1 dX9_suns_92 rfl rfl ?_
    refine v_icmpge (pc2 := 140) (pc3 := 96) C dX9_suns_93 rfl rfl (fun h93 => ?_) (fun h93 => ?_)
    · have hres := (if_pos h93).symm.trans hres
      refine v_iload_n (pc2 := 141) C 1 dX9_suns_140 rfl rfl ?_
      refine v_iconst (pc2 := 142) C dX9_suns_141 ki_3 rfl ?_
      refine v_idiv (pc2 := 143) C dX9_suns_142 (by decide) rfl ?_
      exact r_iS C E hres dX9_suns_143
    · have hres := (if_neg h93).symm.trans hres
      refine v_aload_n (pc2 := 97) C 0 dX9_suns_96 rfl rfl ?_
      refine vg_X9_sky (pc2 := 100) C lf_X9_19 dX9_suns_97 rfl ?_
      refine v_aload_n (pc2 := 101) C 0 dX9_suns_100 rfl rfl ?_
      refine vg_X9_tape (pc2 := 104) C lf_X9_54 dX9_suns_101 rfl ?_
      refine vg_X6_numbers (pc2 := 107) C lf_X9_148 dX9_suns_104 rfl ?_
      refine v_iload_n (pc2 := 108) C 2 dX9_suns_107 rfl rfl ?_
      refine al22 (pc2 := 109) C (hu.i0 h93 ht.2) dX9_suns_108 rfl ?_
      refine v_aload_n (pc2 := 110) C 0 dX9_suns_109 rfl rfl ?_
      refine vg_X9_tape (pc2 := 113) C lf_X9_54 dX9_suns_110 rfl ?_
      refine vg_X6_numbers (pc2 := 116) C lf_X9_148 dX9_suns_113 rfl ?_
      refine v_iload_n (pc2 := 117) C 2 dX9_suns_116 rfl rfl ?_
      refine v_iconst (pc2 := 118) C dX9_suns_117 ki_1 rfl ?_
      refine v_iadd (pc2 := 119) C dX9_suns_118 rfl ?_
      refine al22 (pc2 := 120) C (hu.i1 h93 ht.2) dX9_suns_119 rfl ?_
      refine v_aload_n (pc2 := 121) C 0 dX9_suns_120 rfl rfl ?_
      refine vg_X9_tape (pc2 := 124) C lf_X9_54 dX9_suns_121 rfl ?_
      refine vg_X6_numbers (pc2 := 127) C lf_X9_148 dX9_suns_124 rfl ?_
      refine v_iload_n (pc2 := 128) C 2 dX9_suns_127 rfl rfl ?_
      refine v_iconst (pc2 := 129) C dX9_suns_128 ki_2 rfl ?_
      refine v_iadd (pc2 := 130) C dX9_suns_129 rfl ?_
      refine al22 (pc2 := 131) C (hu.i2 h93 ht.2) dX9_suns_130 rfl ?_
      refine v_cVv (pc2 := 134) C kc_X9_135 (mX4_put (xl X) Λ _ _ _ _ (isSunWay_in (ha.at hu h93 ht.2))) (wd2 Λ _) rfl (by decide) rfl rfl (Nat.le_of_ble_eq_true rfl) dX9_suns_131 rfl ?_
      refine v_iinc (pc2 := 137) (lv2 := [(2, _), (0, _), (1, _)]) C 2 dX9_suns_134 rfl ki_3 (by decide) rfl rfl ?_
      refine v_goto (pc2 := 89) C dX9_suns_137 rfl ?_
      exact v_lv [1, 2, 0] rfl (ih _ _ ht (hu.step h93 ht.2) ha.put hres)
def f9_suns_A (to : Int32) : Nat → St → Int32 → Int32 × St
  | 0, σ, _ => (0, σ)
  | n + 1, σ, j => (if to ≤ (j + (2 : Int32)) then (f9_suns_B to 25 σ (0 : Int32)) else (if (f9_isSunWay (gA σ 8 (Int32.toNatClampNeg j)) (gA σ 8 (Int32.toNatClampNeg (j + (1 : Int32)))) (gA σ 8 (Int32.toNatClampNeg (j + (2 : Int32))))) = (0 : Int32) then (((f9_answer σ (-1000000001 : Int32)).1), ((f9_answer σ (-1000000001 : Int32)).2)) else (f9_suns_A to n σ (j + (3 : Int32)))))
set_option maxHeartbeats 4000000 in
set_option maxRecDepth 100000 in
theorem bf9_suns_A {X : CX} {Λ : LY} (C : OK X Λ cX9_suns 3 RX9 3 64) {res : Int32 × St} (E : EN X Λ (some .int) (some (.int res.1)) res.2) (to : Int32)  : ∀ (n : Nat) (σ : St) (j : Int32), (ht : 0 ≤ to.toInt ∧ to.toInt ≤ 72) → (hu : U3 j n) → (ha : AllS σ j) → (f9_suns_A to n σ j) = res → VV X Λ 3 30 [(0, .ref (adr Λ 0)), (1, .int (to)), (2, .int (j))] [] σ := by
  intro n
  induction n with
  | zero => intro σ j ht hu ha hres; exact absurd hu (fun h => h.z)
  | succ n ih =>
    intro σ j ht hu ha hres
    rw [f9_suns_A] at hres
    refine v_iload_n (pc2 := 31) C 2 dX9_suns_30 rfl rfl ?_
    refine v_iconst (pc2 := 32) C dX9_suns_31 ki_2 rfl ?_
    refine v_iadd (pc2 := 33) C dX9_suns_32 rfl ?_
    refine v_iload_n (pc2 := 34) C 1 dX9_suns_33 rfl rfl ?_
    refine v_icmpge (pc2 := 87) (pc3 := 37) C dX9_suns_34 rfl rfl (fun h34 => ?_) (fun h34 => ?_)
    · have hres := (if_pos h34).symm.trans hres
      refine v_iconst (pc2 := 88) C dX9_suns_87 ki_0 rfl ?_
      refine v_istore_n (pc2 := 89) (lv2 := [(2, _), (0, _), (1, _)]) C dX9_suns_88 (by decide) rfl rfl ?_
      exact v_lv [1, 2, 0] rfl (bf9_suns_B C E _ 25 _ _ ht U3.start (ha.all hu h34 ht.2)  hres)
    · have hres := (if_neg h34).symm.trans hres
      refine v_aload_n (pc2 := 38) C 0 dX9_suns_37 rfl rfl ?_
      refine vg_X9_tape (pc2 := 41) C lf_X9_54 dX9_suns_38 rfl ?_
      refine vg_X6_numbers (pc2 := 44) C lf_X9_148 dX9_suns_41 rfl ?_
      refine v_iload_n (pc2 := 45) C 2 dX9_suns_44 rfl rfl ?_
      refine al22 (pc2 := 46) C (hu.i0 h34 ht.2) dX9_suns_45 rfl ?_
      refine v_aload_n (pc2 := 47) C 0 dX9_suns_46 rfl rfl ?_
      refine vg_X9_tape (pc2 := 50) C lf_X9_54 dX9_suns_47 rfl ?_
      refine vg_X6_numbers (pc2 := 53) C lf_X9_148 dX9_suns_50 rfl ?_
      refine v_iload_n (pc2 := 54) C 2 dX9_suns_53 rfl rfl ?_
      refine v_iconst (pc2 := 55) C dX9_suns_54 ki_1 rfl ?_
      refine v_iadd (pc2 := 56) C dX9_suns_55 rfl ?_
      refine al22 (pc2 := 57) C (hu.i1 h34 ht.2) dX9_suns_56 rfl ?_
      refine v_aload_n (pc2 := 58) C 0 dX9_suns_57 rfl rfl ?_
      refine vg_X9_tape (pc2 := 61) C lf_X9_54 dX9_suns_58 rfl ?_
      refine vg_X6_numbers (pc2 := 64) C lf_X9_148 dX9_suns_61 rfl ?_
      refine v_iload_n (pc2 := 65) C 2 dX9_suns_64 rfl rfl ?_
      refine v_iconst (pc2 := 66) C dX9_suns_65 ki_2 rfl ?_
      refine v_iadd (pc2 := 67) C dX9_suns_66 rfl ?_
      refine al22 (pc2 := 68) C (hu.i2 h34 ht.2) dX9_suns_67 rfl ?_
      refine v_cSi (pc2 := 71) C kc_X9_132 (mX9_isSunWay (xl X) Λ _ _ _ _) (by decide) rfl rfl (Nat.le_of_ble_eq_true rfl) dX9_suns_68 rfl ?_
      refine v_ifne (pc2 := 81) (pc3 := 74) C dX9_suns_71 rfl rfl (fun h71 => ?_) (fun h71 => ?_)
      · have hres := (if_neg h71).symm.trans hres
        refine v_iinc (pc2 := 84) (lv2 := [(2, _), (0, _), (1, _)]) C 2 dX9_suns_81 rfl ki_3 (by decide) rfl rfl ?_
        refine v_goto (pc2 := 30) C dX9_suns_84 rfl ?_
        exact v_lv [1, 2, 0] rfl (ih _ _ ht (hu.step h34 ht.2) (ha.step hu h34 ht.2 h71) hres)
      · have hres := (if_pos h71).symm.trans hres
        refine v_aload_n (pc2 := 75) C 0 dX9_suns_74 rfl rfl ?_
        refine v_ldc (pc2 := 77) C lc_X9_80 dX9_suns_75 rfl ?_
        refine v_cVi (pc2 := 80) C kc_X9_81 (mX9_answer (xl X) Λ _ _ an1) (wd0 Λ _) rfl (by decide) rfl rfl (Nat.le_of_ble_eq_true rfl) dX9_suns_77 rfl ?_
        exact r_iS C E hres dX9_suns_80
def f9_suns (σ : St) : Int32 × St :=
  (if ((gI σ 12) - (gI σ 12) / (3 : Int32) * (3 : Int32)) = (0 : Int32) then (f9_suns_A (gI σ 12) 25 (f6_clear σ) (0 : Int32)) else (((f9_answer σ (-1000000005 : Int32)).1), ((f9_answer σ (-1000000005 : Int32)).2)))
set_option maxHeartbeats 4000000 in
set_option maxRecDepth 100000 in
theorem bf9_suns {X : CX} {Λ : LY} (C : OK X Λ cX9_suns 3 RX9 3 64) {res : Int32 × St} (E : EN X Λ (some .int) (some (.int res.1)) res.2) (σ : St) (hs : Safe σ) (hres : (f9_suns σ) = res) : VV X Λ 3 0 [(0, .ref (adr Λ 0))] [] σ := by
  unfold f9_suns at hres
  refine v_aload_n (pc2 := 1) C 0 dX9_suns_0 rfl rfl ?_
  refine vg_X9_tape (pc2 := 4) C lf_X9_54 dX9_suns_1 rfl ?_
  refine vg_X6_size (pc2 := 7) C lf_X9_142 dX9_suns_4 rfl ?_
  refine v_istore_n (pc2 := 8) (lv2 := [(1, _), (0, _)]) C dX9_suns_7 (by decide) rfl rfl ?_
  refine v_iload_n (pc2 := 9) C 0 dX9_suns_8 rfl rfl ?_
  refine v_iconst (pc2 := 10) C dX9_suns_9 ki_3 rfl ?_
  refine v_irem (pc2 := 11) C dX9_suns_10 (by decide) rfl ?_
  refine v_ifeq (pc2 := 21) (pc3 := 14) C dX9_suns_11 rfl rfl (fun h11 => ?_) (fun h11 => ?_)
  · have hres := (if_pos h11).symm.trans hres
    refine v_aload_n (pc2 := 22) C 1 dX9_suns_21 rfl rfl ?_
    refine vg_X9_tape (pc2 := 25) C lf_X9_54 dX9_suns_22 rfl ?_
    refine v_cVv (pc2 := 28) C kc_X9_145 (mX6_clear (xl X) Λ _ ) (wd7 Λ _) rfl (by decide) rfl rfl (Nat.le_of_ble_eq_true rfl) dX9_suns_25 rfl ?_
    refine v_iconst (pc2 := 29) C dX9_suns_28 ki_0 rfl ?_
    refine v_istore_n (pc2 := 30) (lv2 := [(2, _), (1, _), (0, _)]) C dX9_suns_29 (by decide) rfl rfl ?_
    exact v_lv [2, 1, 0] rfl (bf9_suns_A C E _ 25 _ _ hs.sz U3.start AllS.start  hres)
  · have hres := (if_neg h11).symm.trans hres
    refine v_aload_n (pc2 := 15) C 1 dX9_suns_14 rfl rfl ?_
    refine v_ldc (pc2 := 17) C lc_X9_88 dX9_suns_15 rfl ?_
    refine v_cVi (pc2 := 20) C kc_X9_81 (mX9_answer (xl X) Λ _ _ an5) (wd0 Λ _) rfl (by decide) rfl rfl (Nat.le_of_ble_eq_true rfl) dX9_suns_17 rfl ?_
    exact r_iS C E hres dX9_suns_20
theorem mX9_suns (l : Launch) (Λ : LY) (σ : St) (hs : Safe σ) : CT l Λ yX9_suns cX9_suns 3 (some .int) 3 64 [.ref (adr Λ 0)] σ (some (.int (f9_suns σ).1)) (f9_suns σ).2 := by
  refine CT_of (by decide +kernel) (Nat.le_of_ble_eq_true rfl) ?_
  intro X hX C E
  obtain ⟨res, hres⟩ : ∃ r, (f9_suns σ) = r := ⟨_, rfl⟩
  rw [hres] at E
  exact bf9_suns C E _  hs hres
def f9_ideal (σ : St) (a1 : Int32) : Int32 × St :=
  (if (f9_isHour a1) = (0 : Int32) then (((f9_answer σ (-1000000001 : Int32)).1), ((f9_answer σ (-1000000001 : Int32)).2)) else (if (f4_isNight σ a1) = (0 : Int32) then ((f0_idealStep (gA σ 2 (Int32.toNatClampNeg a1)) (gA σ 3 (Int32.toNatClampNeg a1))), σ) else (((f9_answer σ (-1000000002 : Int32)).1), ((f9_answer σ (-1000000002 : Int32)).2))))
set_option maxHeartbeats 4000000 in
set_option maxRecDepth 100000 in
theorem bf9_ideal {X : CX} {Λ : LY} (C : OK X Λ cX9_ideal 2 RX9 2 42) {res : Int32 × St} (E : EN X Λ (some .int) (some (.int res.1)) res.2) (σ : St) (a1 : Int32)  (hres : (f9_ideal σ a1) = res) : VV X Λ 2 0 [(0, .ref (adr Λ 0)), (1, .int (a1))] [] σ := by
  unfold f9_ideal at hres
  refine v_iload_n (pc2 := 1) C 1 dX9_ideal_0 rfl rfl ?_
  refine v_cSi (pc2 := 4) C kc_X9_151 (mX9_isHour (xl X) Λ _ _) (by decide) rfl rfl (Nat.le_of_ble_eq_true rfl) dX9_ideal_1 rfl ?_
  refine v_ifne (pc2 := 14) (pc3 := 7) C dX9_ideal_4 rfl rfl (fun h4 => ?_) (fun h4 => ?_)
  · have hres := (if_neg h4).symm.trans hres
    refine v_aload_n (pc2 := 15) C 0 dX9_ideal_14 rfl rfl ?_
    refine vg_X9_sky (pc2 := 18) C lf_X9_19 dX9_ideal_15 rfl ?_
    refine v_iload_n (pc2 := 19) C 1 dX9_ideal_18 rfl rfl ?_
    refine v_cVi (pc2 := 22) C kc_X9_139 (mX4_isNight (xl X) Λ _ _ (isHour_in h4)) (wd2 Λ _) rfl (by decide) rfl rfl (Nat.le_of_ble_eq_true rfl) dX9_ideal_19 rfl ?_
    refine v_ifeq (pc2 := 32) (pc3 := 25) C dX9_ideal_22 rfl rfl (fun h22 => ?_) (fun h22 => ?_)
    · have hres := (if_pos h22).symm.trans hres
      refine v_aload_n (pc2 := 33) C 0 dX9_ideal_32 rfl rfl ?_
      refine vg_X9_field (pc2 := 36) C lf_X9_10 dX9_ideal_33 rfl ?_
      refine v_aload_n (pc2 := 37) C 0 dX9_ideal_36 rfl rfl ?_
      refine vg_X9_sky (pc2 := 40) C lf_X9_19 dX9_ideal_37 rfl ?_
      refine vg_X4_x (pc2 := 43) C lf_X9_154 dX9_ideal_40 rfl ?_
      refine v_iload_n (pc2 := 44) C 1 dX9_ideal_43 rfl rfl ?_
      refine al14 (pc2 := 45) C (isHour_in h4) dX9_ideal_44 rfl ?_
      refine v_aload_n (pc2 := 46) C 0 dX9_ideal_45 rfl rfl ?_
      refine vg_X9_sky (pc2 := 49) C lf_X9_19 dX9_ideal_46 rfl ?_
      refine vg_X4_y (pc2 := 52) C lf_X9_157 dX9_ideal_49 rfl ?_
      refine v_iload_n (pc2 := 53) C 1 dX9_ideal_52 rfl rfl ?_
      refine al15 (pc2 := 54) C (isHour_in h4) dX9_ideal_53 rfl ?_
      refine v_cVi (pc2 := 57) C kc_X9_160 (mX0_idealStep (xl X) Λ _ _ _) (wd1 Λ _) rfl (by decide) rfl rfl (Nat.le_of_ble_eq_true rfl) dX9_ideal_54 rfl ?_
      exact r_iS C E hres dX9_ideal_57
    · have hres := (if_neg h22).symm.trans hres
      refine v_aload_n (pc2 := 26) C 0 dX9_ideal_25 rfl rfl ?_
      refine v_ldc (pc2 := 28) C lc_X9_103 dX9_ideal_26 rfl ?_
      refine v_cVi (pc2 := 31) C kc_X9_81 (mX9_answer (xl X) Λ _ _ an2) (wd0 Λ _) rfl (by decide) rfl rfl (Nat.le_of_ble_eq_true rfl) dX9_ideal_28 rfl ?_
      exact r_iS C E hres dX9_ideal_31
  · have hres := (if_pos h4).symm.trans hres
    refine v_aload_n (pc2 := 8) C 0 dX9_ideal_7 rfl rfl ?_
    refine v_ldc (pc2 := 10) C lc_X9_80 dX9_ideal_8 rfl ?_
    refine v_cVi (pc2 := 13) C kc_X9_81 (mX9_answer (xl X) Λ _ _ an1) (wd0 Λ _) rfl (by decide) rfl rfl (Nat.le_of_ble_eq_true rfl) dX9_ideal_10 rfl ?_
    exact r_iS C E hres dX9_ideal_13
theorem mX9_ideal (l : Launch) (Λ : LY) (σ : St) (a1 : Int32)  : CT l Λ yX9_ideal cX9_ideal 2 (some .int) 2 42 [.ref (adr Λ 0), .int (a1)] σ (some (.int (f9_ideal σ a1).1)) (f9_ideal σ a1).2 := by
  refine CT_of (by decide +kernel) (Nat.le_of_ble_eq_true rfl) ?_
  intro X hX C E
  obtain ⟨res, hres⟩ : ∃ r, (f9_ideal σ a1) = r := ⟨_, rfl⟩
  rw [hres] at E
  exact bf9_ideal C E _ _   hres
def f9_back (σ : St) (a1 : Int32) : Int32 × St :=
  (if (f9_isHour a1) = (0 : Int32) then (((f9_answer σ (-1000000001 : Int32)).1), ((f9_answer σ (-1000000001 : Int32)).2)) else (if (f4_isNight σ a1) = (0 : Int32) then (if ((f0_backStep σ (gA σ 2 (Int32.toNatClampNeg a1)) (gA σ 3 (Int32.toNatClampNeg a1))).1) = (99 : Int32) then (((f9_answer ((f0_backStep σ (gA σ 2 (Int32.toNatClampNeg a1)) (gA σ 3 (Int32.toNatClampNeg a1))).2) (-1000000002 : Int32)).1), ((f9_answer ((f0_backStep σ (gA σ 2 (Int32.toNatClampNeg a1)) (gA σ 3 (Int32.toNatClampNeg a1))).2) (-1000000002 : Int32)).2)) else (((f0_backStep σ (gA σ 2 (Int32.toNatClampNeg a1)) (gA σ 3 (Int32.toNatClampNeg a1))).1), ((f0_backStep σ (gA σ 2 (Int32.toNatClampNeg a1)) (gA σ 3 (Int32.toNatClampNeg a1))).2))) else (((f9_answer σ (-1000000003 : Int32)).1), ((f9_answer σ (-1000000003 : Int32)).2))))
set_option maxHeartbeats 4000000 in
set_option maxRecDepth 100000 in
theorem bf9_back {X : CX} {Λ : LY} (C : OK X Λ cX9_back 3 RX9 5 118) {res : Int32 × St} (E : EN X Λ (some .int) (some (.int res.1)) res.2) (σ : St) (a1 : Int32) (hs : Safe σ) (hres : (f9_back σ a1) = res) : VV X Λ 3 0 [(0, .ref (adr Λ 0)), (1, .int (a1))] [] σ := by
  unfold f9_back at hres
  refine v_iload_n (pc2 := 1) C 1 dX9_back_0 rfl rfl ?_
  refine v_cSi (pc2 := 4) C kc_X9_151 (mX9_isHour (xl X) Λ _ _) (by decide) rfl rfl (Nat.le_of_ble_eq_true rfl) dX9_back_1 rfl ?_
  refine v_ifne (pc2 := 14) (pc3 := 7) C dX9_back_4 rfl rfl (fun h4 => ?_) (fun h4 => ?_)
  · have hres := (if_neg h4).symm.trans hres
    refine v_aload_n (pc2 := 15) C 0 dX9_back_14 rfl rfl ?_
    refine vg_X9_sky (pc2 := 18) C lf_X9_19 dX9_back_15 rfl ?_
    refine v_iload_n (pc2 := 19) C 1 dX9_back_18 rfl rfl ?_
    refine v_cVi (pc2 := 22) C kc_X9_139 (mX4_isNight (xl X) Λ _ _ (isHour_in h4)) (wd2 Λ _) rfl (by decide) rfl rfl (Nat.le_of_ble_eq_true rfl) dX9_back_19 rfl ?_
    refine v_ifeq (pc2 := 32) (pc3 := 25) C dX9_back_22 rfl rfl (fun h22 => ?_) (fun h22 => ?_)
    · have hres := (if_pos h22).symm.trans hres
      refine v_aload_n (pc2 := 33) C 0 dX9_back_32 rfl rfl ?_
      refine vg_X9_field (pc2 := 36) C lf_X9_10 dX9_back_33 rfl ?_
      refine v_aload_n (pc2 := 37) C 0 dX9_back_36 rfl rfl ?_
      refine vg_X9_sky (pc2 := 40) C lf_X9_19 dX9_back_37 rfl ?_
      refine vg_X4_x (pc2 := 43) C lf_X9_154 dX9_back_40 rfl ?_
      refine v_iload_n (pc2 := 44) C 1 dX9_back_43 rfl rfl ?_
      refine al14 (pc2 := 45) C (isHour_in h4) dX9_back_44 rfl ?_
      refine v_aload_n (pc2 := 46) C 0 dX9_back_45 rfl rfl ?_
      refine vg_X9_sky (pc2 := 49) C lf_X9_19 dX9_back_46 rfl ?_
      refine vg_X4_y (pc2 := 52) C lf_X9_157 dX9_back_49 rfl ?_
      refine v_iload_n (pc2 := 53) C 1 dX9_back_52 rfl rfl ?_
      refine al15 (pc2 := 54) C (isHour_in h4) dX9_back_53 rfl ?_
      refine v_cVi (pc2 := 57) C kc_X9_164 (mX0_backStep (xl X) Λ _ _ _ hs) (wd1 Λ _) rfl (by decide) rfl rfl (Nat.le_of_ble_eq_true rfl) dX9_back_54 rfl ?_
      refine v_istore_n (pc2 := 58) (lv2 := [(2, _), (0, _), (1, _)]) C dX9_back_57 (by decide) rfl rfl ?_
      refine v_iload_n (pc2 := 59) C 0 dX9_back_58 rfl rfl ?_
      refine v_bipush (pc2 := 61) C dX9_back_59 kb_99 rfl ?_
      refine v_icmpne (pc2 := 73) (pc3 := 64) C dX9_back_61 rfl rfl (fun h61 => ?_) (fun h61 => ?_)
      · have hres := (if_neg h61).symm.trans hres
        refine v_iload_n (pc2 := 74) C 0 dX9_back_73 rfl rfl ?_
        exact r_iS C E hres dX9_back_74
      · have hres := (if_pos h61).symm.trans hres
        refine v_aload_n (pc2 := 65) C 1 dX9_back_64 rfl rfl ?_
        refine v_ldc (pc2 := 67) C lc_X9_103 dX9_back_65 rfl ?_
        refine v_cVi (pc2 := 70) C kc_X9_81 (mX9_answer (xl X) Λ _ _ an2) (wd0 Λ _) rfl (by decide) rfl rfl (Nat.le_of_ble_eq_true rfl) dX9_back_67 rfl ?_
        refine v_goto (pc2 := 74) C dX9_back_70 rfl ?_
        exact r_iS C E hres dX9_back_74
    · have hres := (if_neg h22).symm.trans hres
      refine v_aload_n (pc2 := 26) C 0 dX9_back_25 rfl rfl ?_
      refine v_ldc (pc2 := 28) C lc_X9_131 dX9_back_26 rfl ?_
      refine v_cVi (pc2 := 31) C kc_X9_81 (mX9_answer (xl X) Λ _ _ an3) (wd0 Λ _) rfl (by decide) rfl rfl (Nat.le_of_ble_eq_true rfl) dX9_back_28 rfl ?_
      exact r_iS C E hres dX9_back_31
  · have hres := (if_pos h4).symm.trans hres
    refine v_aload_n (pc2 := 8) C 0 dX9_back_7 rfl rfl ?_
    refine v_ldc (pc2 := 10) C lc_X9_80 dX9_back_8 rfl ?_
    refine v_cVi (pc2 := 13) C kc_X9_81 (mX9_answer (xl X) Λ _ _ an1) (wd0 Λ _) rfl (by decide) rfl rfl (Nat.le_of_ble_eq_true rfl) dX9_back_10 rfl ?_
    exact r_iS C E hres dX9_back_13
theorem mX9_back (l : Launch) (Λ : LY) (σ : St) (a1 : Int32) (hs : Safe σ) : CT l Λ yX9_back cX9_back 3 (some .int) 5 118 [.ref (adr Λ 0), .int (a1)] σ (some (.int (f9_back σ a1).1)) (f9_back σ a1).2 := by
  refine CT_of (by decide +kernel) (Nat.le_of_ble_eq_true rfl) ?_
  intro X hX C E
  obtain ⟨res, hres⟩ : ∃ r, (f9_back σ a1) = r := ⟨_, rfl⟩
  rw [hres] at E
  exact bf9_back C E _ _  hs hres
def f9_findingOfSight (σ : St) (a1 : Int32) (a2 : Int32) : Int32 :=
  (if (f9_isRow σ a1) = (0 : Int32) then (-1000000001 : Int32) else (if (f9_isHour a2) = (0 : Int32) then (-1000000001 : Int32) else (if (f4_isNight σ a2) = (0 : Int32) then (0 : Int32) else (-1000000002 : Int32))))
set_option maxHeartbeats 4000000 in
set_option maxRecDepth 100000 in
theorem bf9_findingOfSight {X : CX} {Λ : LY} (C : OK X Λ cX9_findingOfSight 3 RX9 2 43) {σ : St} {res : Int32} (E : EN X Λ (some .int) (some (.int res)) σ) (a1 : Int32) (a2 : Int32)  (hres : (f9_findingOfSight σ a1 a2) = res) : VV X Λ 3 0 [(0, .ref (adr Λ 0)), (1, .int (a1)), (2, .int (a2))] [] σ := by
  unfold f9_findingOfSight at hres
  refine v_aload_n (pc2 := 1) C 0 dX9_findingOfSight_0 rfl rfl ?_
  refine v_iload_n (pc2 := 2) C 1 dX9_findingOfSight_1 rfl rfl ?_
  refine v_cVi (pc2 := 5) C kc_X9_104 (mX9_isRow (xl X) Λ _ _) (wd0 Λ _) rfl (by decide) rfl rfl (Nat.le_of_ble_eq_true rfl) dX9_findingOfSight_2 rfl ?_
  refine v_ifeq (pc2 := 15) (pc3 := 8) C dX9_findingOfSight_5 rfl rfl (fun h5 => ?_) (fun h5 => ?_)
  · have hres := (if_pos h5).symm.trans hres
    refine v_ldc (pc2 := 17) C lc_X9_80 dX9_findingOfSight_15 rfl ?_
    exact r_iP C E hres dX9_findingOfSight_17
  · have hres := (if_neg h5).symm.trans hres
    refine v_iload_n (pc2 := 9) C 2 dX9_findingOfSight_8 rfl rfl ?_
    refine v_cSi (pc2 := 12) C kc_X9_151 (mX9_isHour (xl X) Λ _ _) (by decide) rfl rfl (Nat.le_of_ble_eq_true rfl) dX9_findingOfSight_9 rfl ?_
    refine v_ifne (pc2 := 18) (pc3 := 15) C dX9_findingOfSight_12 rfl rfl (fun h12 => ?_) (fun h12 => ?_)
    · have hres := (if_neg h12).symm.trans hres
      refine v_aload_n (pc2 := 19) C 0 dX9_findingOfSight_18 rfl rfl ?_
      refine vg_X9_sky (pc2 := 22) C lf_X9_19 dX9_findingOfSight_19 rfl ?_
      refine v_iload_n (pc2 := 23) C 2 dX9_findingOfSight_22 rfl rfl ?_
      refine v_cVi (pc2 := 26) C kc_X9_139 (mX4_isNight (xl X) Λ _ _ (isHour_in h12)) (wd2 Λ _) rfl (by decide) rfl rfl (Nat.le_of_ble_eq_true rfl) dX9_findingOfSight_23 rfl ?_
      refine v_ifeq (pc2 := 34) (pc3 := 29) C dX9_findingOfSight_26 rfl rfl (fun h26 => ?_) (fun h26 => ?_)
      · have hres := (if_pos h26).symm.trans hres
        refine v_iconst (pc2 := 35) C dX9_findingOfSight_34 ki_0 rfl ?_
        exact r_iP C E hres dX9_findingOfSight_35
      · have hres := (if_neg h26).symm.trans hres
        refine v_ldc (pc2 := 31) C lc_X9_103 dX9_findingOfSight_29 rfl ?_
        refine v_goto (pc2 := 35) C dX9_findingOfSight_31 rfl ?_
        exact r_iP C E hres dX9_findingOfSight_35
    · have hres := (if_pos h12).symm.trans hres
      refine v_ldc (pc2 := 17) C lc_X9_80 dX9_findingOfSight_15 rfl ?_
      exact r_iP C E hres dX9_findingOfSight_17
theorem mX9_findingOfSight (l : Launch) (Λ : LY) (σ : St) (a1 : Int32) (a2 : Int32)  : CT l Λ yX9_findingOfSight cX9_findingOfSight 3 (some .int) 2 43 [.ref (adr Λ 0), .int (a1), .int (a2)] σ (some (.int (f9_findingOfSight σ a1 a2))) σ := by
  refine CT_of (by decide +kernel) (Nat.le_of_ble_eq_true rfl) ?_
  intro X hX C E
  obtain ⟨res, hres⟩ : ∃ r, (f9_findingOfSight σ a1 a2) = r := ⟨_, rfl⟩
  rw [hres] at E
  exact bf9_findingOfSight C E _ _   hres
theorem fs_in {σ : St} {a b : Int32} (h : ¬ f9_findingOfSight σ a b = 0) : vp_in ((-1000000001 : Int32) - f9_findingOfSight σ a b) 5 := by
  unfold f9_findingOfSight at h ⊢
  repeat' split
  all_goals first | exact an1 | exact an2 | skip
  all_goals (exfalso; apply h; simp only [*, if_true, if_false]; done)
theorem fs_hour {σ : St} {a b : Int32} (h : f9_findingOfSight σ a b = 0) : vp_in b 24 := by
  unfold f9_findingOfSight at h
  split at h
  · exact absurd h (by decide +kernel)
  · split at h
    · exact absurd h (by decide +kernel)
    · rename_i h2; exact isHour_in h2
theorem fs_row {σ : St} {a b : Int32} (hs : Safe σ) (h : f9_findingOfSight σ a b = 0) : vp_in a 10 := by
  unfold f9_findingOfSight at h
  split at h
  · exact absurd h (by decide +kernel)
  · rename_i h2; exact isRow_in hs h2
def f9_lookFrom (σ : St) (a1 : Int32) : St :=
  (f0_lookAsTurned σ (gA σ 2 (Int32.toNatClampNeg a1)) (gA σ 3 (Int32.toNatClampNeg a1)))
set_option maxHeartbeats 4000000 in
set_option maxRecDepth 100000 in
theorem bf9_lookFrom {X : CX} {Λ : LY} (C : OK X Λ cX9_lookFrom 2 RX9 3 79) {res : St} (E : EN X Λ none none res) (σ : St) (a1 : Int32) (hs : Safe σ) (h1 : vp_in a1 24) (hres : (f9_lookFrom σ a1) = res) : VV X Λ 2 0 [(0, .ref (adr Λ 0)), (1, .int (a1))] [] σ := by
  unfold f9_lookFrom at hres
  refine v_aload_n (pc2 := 1) C 0 dX9_lookFrom_0 rfl rfl ?_
  refine vg_X9_field (pc2 := 4) C lf_X9_10 dX9_lookFrom_1 rfl ?_
  refine v_aload_n (pc2 := 5) C 0 dX9_lookFrom_4 rfl rfl ?_
  refine vg_X9_sky (pc2 := 8) C lf_X9_19 dX9_lookFrom_5 rfl ?_
  refine vg_X4_x (pc2 := 11) C lf_X9_154 dX9_lookFrom_8 rfl ?_
  refine v_iload_n (pc2 := 12) C 1 dX9_lookFrom_11 rfl rfl ?_
  refine al14 (pc2 := 13) C h1 dX9_lookFrom_12 rfl ?_
  refine v_aload_n (pc2 := 14) C 0 dX9_lookFrom_13 rfl rfl ?_
  refine vg_X9_sky (pc2 := 17) C lf_X9_19 dX9_lookFrom_14 rfl ?_
  refine vg_X4_y (pc2 := 20) C lf_X9_157 dX9_lookFrom_17 rfl ?_
  refine v_iload_n (pc2 := 21) C 1 dX9_lookFrom_20 rfl rfl ?_
  refine al15 (pc2 := 22) C h1 dX9_lookFrom_21 rfl ?_
  refine v_cVv (pc2 := 25) C kc_X9_278 (mX0_lookAsTurned (xl X) Λ _ _ _ hs) (wd1 Λ _) rfl (by decide) rfl rfl (Nat.le_of_ble_eq_true rfl) dX9_lookFrom_22 rfl ?_
  exact r_vS C E hres dX9_lookFrom_25
theorem mX9_lookFrom (l : Launch) (Λ : LY) (σ : St) (a1 : Int32) (hs : Safe σ) (h1 : vp_in a1 24) : CT l Λ yX9_lookFrom cX9_lookFrom 2 none 3 79 [.ref (adr Λ 0), .int (a1)] σ none (f9_lookFrom σ a1) := by
  refine CT_of (by decide +kernel) (Nat.le_of_ble_eq_true rfl) ?_
  intro X hX C E
  obtain ⟨res, hres⟩ : ∃ r, (f9_lookFrom σ a1) = r := ⟨_, rfl⟩
  rw [hres] at E
  exact bf9_lookFrom C E _ _  hs h1 hres
theorem sX9_lookFrom {σ : St} {a : Int32} (h : Safe σ) : Safe (f9_lookFrom σ a) := sX0_lookAsTurned h
def f9_findingOfShade (σ : St) (a1 : Int32) (a2 : Int32) : Int32 × St :=
  (if (f9_findingOfSight σ a1 a2) = (0 : Int32) then (if (f2_isLit (f9_lookFrom σ a2) a1) = (0 : Int32) then ((-1000000003 : Int32), (f9_lookFrom σ a2)) else ((0 : Int32), (f9_lookFrom σ a2))) else ((f9_findingOfSight σ a1 a2), σ))
set_option maxHeartbeats 4000000 in
set_option maxRecDepth 100000 in
theorem bf9_findingOfShade {X : CX} {Λ : LY} (C : OK X Λ cX9_findingOfShade 4 RX9 4 100) {res : Int32 × St} (E : EN X Λ (some .int) (some (.int res.1)) res.2) (σ : St) (a1 : Int32) (a2 : Int32) (hs : Safe σ) (hres : (f9_findingOfShade σ a1 a2) = res) : VV X Λ 4 0 [(0, .ref (adr Λ 0)), (1, .int (a1)), (2, .int (a2))] [] σ := by
  unfold f9_findingOfShade at hres
  refine v_aload_n (pc2 := 1) C 0 dX9_findingOfShade_0 rfl rfl ?_
  refine v_iload_n (pc2 := 2) C 1 dX9_findingOfShade_1 rfl rfl ?_
  refine v_iload_n (pc2 := 3) C 2 dX9_findingOfShade_2 rfl rfl ?_
  refine v_cVi (pc2 := 6) C kc_X9_167 (mX9_findingOfSight (xl X) Λ _ _ _) (wd0 Λ _) rfl (by decide) rfl rfl (Nat.le_of_ble_eq_true rfl) dX9_findingOfShade_3 rfl ?_
  refine v_istore_n (pc2 := 7) (lv2 := [(3, _), (0, _), (1, _), (2, _)]) C dX9_findingOfShade_6 (by decide) rfl rfl ?_
  refine v_iload_n (pc2 := 8) C 0 dX9_findingOfShade_7 rfl rfl ?_
  refine v_ifeq (pc2 := 13) (pc3 := 11) C dX9_findingOfShade_8 rfl rfl (fun h8 => ?_) (fun h8 => ?_)
  · have hres := (if_pos h8).symm.trans hres
    refine v_aload_n (pc2 := 14) C 1 dX9_findingOfShade_13 rfl rfl ?_
    refine v_iload_n (pc2 := 15) C 3 dX9_findingOfShade_14 rfl rfl ?_
    refine v_cVv (pc2 := 18) C kc_X9_170 (mX9_lookFrom (xl X) Λ _ _ hs (fs_hour h8)) (wd0 Λ _) rfl (by decide) rfl rfl (Nat.le_of_ble_eq_true rfl) dX9_findingOfShade_15 rfl ?_
    refine v_aload_n (pc2 := 19) C 1 dX9_findingOfShade_18 rfl rfl ?_
    refine vg_X9_field (pc2 := 22) C lf_X9_10 dX9_findingOfShade_19 rfl ?_
    refine vg_X0_looks (pc2 := 25) C lf_X9_174 dX9_findingOfShade_22 rfl ?_
    refine v_iload_n (pc2 := 26) C 2 dX9_findingOfShade_25 rfl rfl ?_
    refine v_cVi (pc2 := 29) C kc_X9_275 (mX2_isLit (xl X) Λ _ _ (fs_row hs h8)) (wd10 Λ _) rfl (by decide) rfl rfl (Nat.le_of_ble_eq_true rfl) dX9_findingOfShade_26 rfl ?_
    refine v_ifeq (pc2 := 36) (pc3 := 32) C dX9_findingOfShade_29 rfl rfl (fun h29 => ?_) (fun h29 => ?_)
    · have hres := (if_pos h29).symm.trans hres
      refine v_ldc (pc2 := 38) C lc_X9_131 dX9_findingOfShade_36 rfl ?_
      exact r_iS C E hres dX9_findingOfShade_38
    · have hres := (if_neg h29).symm.trans hres
      refine v_iconst (pc2 := 33) C dX9_findingOfShade_32 ki_0 rfl ?_
      refine v_goto (pc2 := 38) C dX9_findingOfShade_33 rfl ?_
      exact r_iS C E hres dX9_findingOfShade_38
  · have hres := (if_neg h8).symm.trans hres
    refine v_iload_n (pc2 := 12) C 0 dX9_findingOfShade_11 rfl rfl ?_
    exact r_iS C E hres dX9_findingOfShade_12
theorem mX9_findingOfShade (l : Launch) (Λ : LY) (σ : St) (a1 : Int32) (a2 : Int32) (hs : Safe σ) : CT l Λ yX9_findingOfShade cX9_findingOfShade 4 (some .int) 4 100 [.ref (adr Λ 0), .int (a1), .int (a2)] σ (some (.int (f9_findingOfShade σ a1 a2).1)) (f9_findingOfShade σ a1 a2).2 := by
  refine CT_of (by decide +kernel) (Nat.le_of_ble_eq_true rfl) ?_
  intro X hX C E
  obtain ⟨res, hres⟩ : ∃ r, (f9_findingOfShade σ a1 a2) = r := ⟨_, rfl⟩
  rw [hres] at E
  exact bf9_findingOfShade C E _ _ _  hs hres
theorem sX9_findingOfShade {σ : St} {a b : Int32} (h : Safe σ) : Safe (f9_findingOfShade σ a b).2 := by
  unfold f9_findingOfShade
  split
  · split
    · exact sX9_lookFrom h
    · exact sX9_lookFrom h
  · exact h
theorem fsh_row {σ : St} {a b : Int32} (hs : Safe σ) (h : (f9_findingOfShade σ a b).1 = 0) : vp_in a 10 := by
  unfold f9_findingOfShade at h
  split at h
  · rename_i h1; exact fs_row hs h1
  · rename_i h1; exact absurd h h1
theorem fsh_in {σ : St} {a b : Int32} (h : ¬ (f9_findingOfShade σ a b).1 = 0) : vp_in ((-1000000001 : Int32) - (f9_findingOfShade σ a b).1) 5 := by
  unfold f9_findingOfShade at h ⊢
  split
  · rename_i h1
    rw [if_pos h1] at h
    split
    · exact an3
    · rename_i h2
      rw [if_neg h2] at h
      exact absurd rfl h
  · rename_i h1; exact fs_in h1
def f9_breadth (σ : St) (a1 : Int32) (a2 : Int32) : Int64 × St :=
  (if (f9_findingOfSight σ a1 a2) = (0 : Int32) then ((f2_stretch (f9_lookFrom σ a2) a1), (f9_lookFrom σ a2)) else ((Int32.toInt64 ((f9_answer σ (f9_findingOfSight σ a1 a2)).1)), ((f9_answer σ (f9_findingOfSight σ a1 a2)).2)))
set_option maxHeartbeats 4000000 in
set_option maxRecDepth 100000 in
theorem bf9_breadth {X : CX} {Λ : LY} (C : OK X Λ cX9_breadth 4 RX9 4 100) {res : Int64 × St} (E : EN X Λ (some .long) (some (.long res.1)) res.2) (σ : St) (a1 : Int32) (a2 : Int32) (hs : Safe σ) (hres : (f9_breadth σ a1 a2) = res) : VV X Λ 4 0 [(0, .ref (adr Λ 0)), (1, .int (a1)), (2, .int (a2))] [] σ := by
  unfold f9_breadth at hres
  refine v_aload_n (pc2 := 1) C 0 dX9_breadth_0 rfl rfl ?_
  refine v_iload_n (pc2 := 2) C 1 dX9_breadth_1 rfl rfl ?_
  refine v_iload_n (pc2 := 3) C 2 dX9_breadth_2 rfl rfl ?_
  refine v_cVi (pc2 := 6) C kc_X9_167 (mX9_findingOfSight (xl X) Λ _ _ _) (wd0 Λ _) rfl (by decide) rfl rfl (Nat.le_of_ble_eq_true rfl) dX9_breadth_3 rfl ?_
  refine v_istore_n (pc2 := 7) (lv2 := [(3, _), (0, _), (1, _), (2, _)]) C dX9_breadth_6 (by decide) rfl rfl ?_
  refine v_iload_n (pc2 := 8) C 0 dX9_breadth_7 rfl rfl ?_
  refine v_ifeq (pc2 := 18) (pc3 := 11) C dX9_breadth_8 rfl rfl (fun h8 => ?_) (fun h8 => ?_)
  · have hres := (if_pos h8).symm.trans hres
    refine v_aload_n (pc2 := 19) C 1 dX9_breadth_18 rfl rfl ?_
    refine v_iload_n (pc2 := 20) C 3 dX9_breadth_19 rfl rfl ?_
    refine v_cVv (pc2 := 23) C kc_X9_170 (mX9_lookFrom (xl X) Λ _ _ hs (fs_hour h8)) (wd0 Λ _) rfl (by decide) rfl rfl (Nat.le_of_ble_eq_true rfl) dX9_breadth_20 rfl ?_
    refine v_aload_n (pc2 := 24) C 1 dX9_breadth_23 rfl rfl ?_
    refine vg_X9_field (pc2 := 27) C lf_X9_10 dX9_breadth_24 rfl ?_
    refine vg_X0_looks (pc2 := 30) C lf_X9_174 dX9_breadth_27 rfl ?_
    refine v_iload_n (pc2 := 31) C 2 dX9_breadth_30 rfl rfl ?_
    refine v_cVl (pc2 := 34) C kc_X9_178 (mX2_stretch (xl X) Λ _ _ (fs_row hs h8)) (wd10 Λ _) rfl (by decide) rfl rfl (Nat.le_of_ble_eq_true rfl) dX9_breadth_31 rfl ?_
    exact r_lS C E hres dX9_breadth_34
  · have hres := (if_neg h8).symm.trans hres
    refine v_aload_n (pc2 := 12) C 1 dX9_breadth_11 rfl rfl ?_
    refine v_iload_n (pc2 := 13) C 0 dX9_breadth_12 rfl rfl ?_
    refine v_cVi (pc2 := 16) C kc_X9_81 (mX9_answer (xl X) Λ _ _ (fs_in h8)) (wd0 Λ _) rfl (by decide) rfl rfl (Nat.le_of_ble_eq_true rfl) dX9_breadth_13 rfl ?_
    refine v_i2l (pc2 := 17) C dX9_breadth_16 rfl ?_
    exact r_lS C E hres dX9_breadth_17
theorem mX9_breadth (l : Launch) (Λ : LY) (σ : St) (a1 : Int32) (a2 : Int32) (hs : Safe σ) : CT l Λ yX9_breadth cX9_breadth 4 (some .long) 4 100 [.ref (adr Λ 0), .int (a1), .int (a2)] σ (some (.long (f9_breadth σ a1 a2).1)) (f9_breadth σ a1 a2).2 := by
  refine CT_of (by decide +kernel) (Nat.le_of_ble_eq_true rfl) ?_
  intro X hX C E
  obtain ⟨res, hres⟩ : ∃ r, (f9_breadth σ a1 a2) = r := ⟨_, rfl⟩
  rw [hres] at E
  exact bf9_breadth C E _ _ _  hs hres
def f9_shade (σ : St) (a1 : Int32) (a2 : Int32) : Int64 × St :=
  (if ((f9_findingOfShade σ a1 a2).1) = (0 : Int32) then ((f2_shaded (f0_castShade ((f9_findingOfShade σ a1 a2).2) a1)), (f0_castShade ((f9_findingOfShade σ a1 a2).2) a1)) else ((Int32.toInt64 ((f9_answer ((f9_findingOfShade σ a1 a2).2) ((f9_findingOfShade σ a1 a2).1)).1)), ((f9_answer ((f9_findingOfShade σ a1 a2).2) ((f9_findingOfShade σ a1 a2).1)).2)))
set_option maxHeartbeats 4000000 in
set_option maxRecDepth 100000 in
theorem bf9_shade {X : CX} {Λ : LY} (C : OK X Λ cX9_shade 4 RX9 5 123) {res : Int64 × St} (E : EN X Λ (some .long) (some (.long res.1)) res.2) (σ : St) (a1 : Int32) (a2 : Int32) (hs : Safe σ) (hres : (f9_shade σ a1 a2) = res) : VV X Λ 4 0 [(0, .ref (adr Λ 0)), (1, .int (a1)), (2, .int (a2))] [] σ := by
  unfold f9_shade at hres
  refine v_aload_n (pc2 := 1) C 0 dX9_shade_0 rfl rfl ?_
  refine v_iload_n (pc2 := 2) C 1 dX9_shade_1 rfl rfl ?_
  refine v_iload_n (pc2 := 3) C 2 dX9_shade_2 rfl rfl ?_
  refine v_cVi (pc2 := 6) C kc_X9_184 (mX9_findingOfShade (xl X) Λ _ _ _ hs) (wd0 Λ _) rfl (by decide) rfl rfl (Nat.le_of_ble_eq_true rfl) dX9_shade_3 rfl ?_
  refine v_istore_n (pc2 := 7) (lv2 := [(3, _), (0, _), (1, _), (2, _)]) C dX9_shade_6 (by decide) rfl rfl ?_
  refine v_iload_n (pc2 := 8) C 0 dX9_shade_7 rfl rfl ?_
  refine v_ifeq (pc2 := 18) (pc3 := 11) C dX9_shade_8 rfl rfl (fun h8 => ?_) (fun h8 => ?_)
  · have hres := (if_pos h8).symm.trans hres
    refine v_aload_n (pc2 := 19) C 1 dX9_shade_18 rfl rfl ?_
    refine vg_X9_field (pc2 := 22) C lf_X9_10 dX9_shade_19 rfl ?_
    refine v_iload_n (pc2 := 23) C 2 dX9_shade_22 rfl rfl ?_
    refine v_cVv (pc2 := 26) C kc_X9_187 (mX0_castShade (xl X) Λ _ _ (sX9_findingOfShade hs) (fsh_row hs h8)) (wd1 Λ _) rfl (by decide) rfl rfl (Nat.le_of_ble_eq_true rfl) dX9_shade_23 rfl ?_
    refine v_aload_n (pc2 := 27) C 1 dX9_shade_26 rfl rfl ?_
    refine vg_X9_field (pc2 := 30) C lf_X9_10 dX9_shade_27 rfl ?_
    refine vg_X0_looks (pc2 := 33) C lf_X9_174 dX9_shade_30 rfl ?_
    refine v_cVl (pc2 := 36) C kc_X9_190 (mX2_shaded (xl X) Λ _ (sX0_castShade (sX9_findingOfShade hs))) (wd10 Λ _) rfl (by decide) rfl rfl (Nat.le_of_ble_eq_true rfl) dX9_shade_33 rfl ?_
    exact r_lS C E hres dX9_shade_36
  · have hres := (if_neg h8).symm.trans hres
    refine v_aload_n (pc2 := 12) C 1 dX9_shade_11 rfl rfl ?_
    refine v_iload_n (pc2 := 13) C 0 dX9_shade_12 rfl rfl ?_
    refine v_cVi (pc2 := 16) C kc_X9_81 (mX9_answer (xl X) Λ _ _ (fsh_in h8)) (wd0 Λ _) rfl (by decide) rfl rfl (Nat.le_of_ble_eq_true rfl) dX9_shade_13 rfl ?_
    refine v_i2l (pc2 := 17) C dX9_shade_16 rfl ?_
    exact r_lS C E hres dX9_shade_17
theorem mX9_shade (l : Launch) (Λ : LY) (σ : St) (a1 : Int32) (a2 : Int32) (hs : Safe σ) : CT l Λ yX9_shade cX9_shade 4 (some .long) 5 123 [.ref (adr Λ 0), .int (a1), .int (a2)] σ (some (.long (f9_shade σ a1 a2).1)) (f9_shade σ a1 a2).2 := by
  refine CT_of (by decide +kernel) (Nat.le_of_ble_eq_true rfl) ?_
  intro X hX C E
  obtain ⟨res, hres⟩ : ∃ r, (f9_shade σ a1 a2) = r := ⟨_, rfl⟩
  rw [hres] at E
  exact bf9_shade C E _ _ _  hs hres
def f9_dark (σ : St) (a1 : Int32) (a2 : Int32) : Int32 × St :=
  (if ((f9_findingOfShade σ a1 a2).1) = (0 : Int32) then ((f2_darkGroups (f0_castShade ((f9_findingOfShade σ a1 a2).2) a1) a1), (f0_castShade ((f9_findingOfShade σ a1 a2).2) a1)) else (((f9_answer ((f9_findingOfShade σ a1 a2).2) ((f9_findingOfShade σ a1 a2).1)).1), ((f9_answer ((f9_findingOfShade σ a1 a2).2) ((f9_findingOfShade σ a1 a2).1)).2)))
set_option maxHeartbeats 4000000 in
set_option maxRecDepth 100000 in
theorem bf9_dark {X : CX} {Λ : LY} (C : OK X Λ cX9_dark 4 RX9 5 123) {res : Int32 × St} (E : EN X Λ (some .int) (some (.int res.1)) res.2) (σ : St) (a1 : Int32) (a2 : Int32) (hs : Safe σ) (hres : (f9_dark σ a1 a2) = res) : VV X Λ 4 0 [(0, .ref (adr Λ 0)), (1, .int (a1)), (2, .int (a2))] [] σ := by
  unfold f9_dark at hres
  refine v_aload_n (pc2 := 1) C 0 dX9_dark_0 rfl rfl ?_
  refine v_iload_n (pc2 := 2) C 1 dX9_dark_1 rfl rfl ?_
  refine v_iload_n (pc2 := 3) C 2 dX9_dark_2 rfl rfl ?_
  refine v_cVi (pc2 := 6) C kc_X9_184 (mX9_findingOfShade (xl X) Λ _ _ _ hs) (wd0 Λ _) rfl (by decide) rfl rfl (Nat.le_of_ble_eq_true rfl) dX9_dark_3 rfl ?_
  refine v_istore_n (pc2 := 7) (lv2 := [(3, _), (0, _), (1, _), (2, _)]) C dX9_dark_6 (by decide) rfl rfl ?_
  refine v_iload_n (pc2 := 8) C 0 dX9_dark_7 rfl rfl ?_
  refine v_ifeq (pc2 := 17) (pc3 := 11) C dX9_dark_8 rfl rfl (fun h8 => ?_) (fun h8 => ?_)
  · have hres := (if_pos h8).symm.trans hres
    refine v_aload_n (pc2 := 18) C 1 dX9_dark_17 rfl rfl ?_
    refine vg_X9_field (pc2 := 21) C lf_X9_10 dX9_dark_18 rfl ?_
    refine v_iload_n (pc2 := 22) C 2 dX9_dark_21 rfl rfl ?_
    refine v_cVv (pc2 := 25) C kc_X9_187 (mX0_castShade (xl X) Λ _ _ (sX9_findingOfShade hs) (fsh_row hs h8)) (wd1 Λ _) rfl (by decide) rfl rfl (Nat.le_of_ble_eq_true rfl) dX9_dark_22 rfl ?_
    refine v_aload_n (pc2 := 26) C 1 dX9_dark_25 rfl rfl ?_
    refine vg_X9_field (pc2 := 29) C lf_X9_10 dX9_dark_26 rfl ?_
    refine vg_X0_looks (pc2 := 32) C lf_X9_174 dX9_dark_29 rfl ?_
    refine v_iload_n (pc2 := 33) C 2 dX9_dark_32 rfl rfl ?_
    refine v_cVi (pc2 := 36) C kc_X9_194 (mX2_darkGroups (xl X) Λ _ _ (sX0_castShade (sX9_findingOfShade hs)) (fsh_row hs h8)) (wd10 Λ _) rfl (by decide) rfl rfl (Nat.le_of_ble_eq_true rfl) dX9_dark_33 rfl ?_
    exact r_iS C E hres dX9_dark_36
  · have hres := (if_neg h8).symm.trans hres
    refine v_aload_n (pc2 := 12) C 1 dX9_dark_11 rfl rfl ?_
    refine v_iload_n (pc2 := 13) C 0 dX9_dark_12 rfl rfl ?_
    refine v_cVi (pc2 := 16) C kc_X9_81 (mX9_answer (xl X) Λ _ _ (fsh_in h8)) (wd0 Λ _) rfl (by decide) rfl rfl (Nat.le_of_ble_eq_true rfl) dX9_dark_13 rfl ?_
    exact r_iS C E hres dX9_dark_16
theorem mX9_dark (l : Launch) (Λ : LY) (σ : St) (a1 : Int32) (a2 : Int32) (hs : Safe σ) : CT l Λ yX9_dark cX9_dark 4 (some .int) 5 123 [.ref (adr Λ 0), .int (a1), .int (a2)] σ (some (.int (f9_dark σ a1 a2).1)) (f9_dark σ a1 a2).2 := by
  refine CT_of (by decide +kernel) (Nat.le_of_ble_eq_true rfl) ?_
  intro X hX C E
  obtain ⟨res, hres⟩ : ∃ r, (f9_dark σ a1 a2) = r := ⟨_, rfl⟩
  rw [hres] at E
  exact bf9_dark C E _ _ _  hs hres
def f9_string (σ : St) (a1 : Int32) (a2 : Int32) : Int32 × St :=
  (if (f9_isRow σ a1) = (0 : Int32) then (((f9_answer σ (-1000000001 : Int32)).1), ((f9_answer σ (-1000000001 : Int32)).2)) else (if (f9_isWithin a2 (-1 : Int32) (3 : Int32)) = (0 : Int32) then (((f9_answer σ (-1000000001 : Int32)).1), ((f9_answer σ (-1000000001 : Int32)).2)) else ((gA σ 16 (Int32.toNatClampNeg a1)), (uA σ 16 (Int32.toNatClampNeg a1) a2))))
set_option maxHeartbeats 4000000 in
set_option maxRecDepth 100000 in
theorem bf9_string {X : CX} {Λ : LY} (C : OK X Λ cX9_string 5 RX9 2 43) {res : Int32 × St} (E : EN X Λ (some .int) (some (.int res.1)) res.2) (σ : St) (a1 : Int32) (a2 : Int32) (hs : Safe σ) (hres : (f9_string σ a1 a2) = res) : VV X Λ 5 0 [(0, .ref (adr Λ 0)), (1, .int (a1)), (2, .int (a2))] [] σ := by
  unfold f9_string at hres
  refine v_aload_n (pc2 := 1) C 0 dX9_string_0 rfl rfl ?_
  refine v_iload_n (pc2 := 2) C 1 dX9_string_1 rfl rfl ?_
  refine v_cVi (pc2 := 5) C kc_X9_104 (mX9_isRow (xl X) Λ _ _) (wd0 Λ _) rfl (by decide) rfl rfl (Nat.le_of_ble_eq_true rfl) dX9_string_2 rfl ?_
  refine v_ifeq (pc2 := 17) (pc3 := 8) C dX9_string_5 rfl rfl (fun h5 => ?_) (fun h5 => ?_)
  · have hres := (if_pos h5).symm.trans hres
    refine v_aload_n (pc2 := 18) C 0 dX9_string_17 rfl rfl ?_
    refine v_ldc (pc2 := 20) C lc_X9_80 dX9_string_18 rfl ?_
    refine v_cVi (pc2 := 23) C kc_X9_81 (mX9_answer (xl X) Λ _ _ an1) (wd0 Λ _) rfl (by decide) rfl rfl (Nat.le_of_ble_eq_true rfl) dX9_string_20 rfl ?_
    exact r_iS C E hres dX9_string_23
  · have hres := (if_neg h5).symm.trans hres
    refine v_iload_n (pc2 := 9) C 2 dX9_string_8 rfl rfl ?_
    refine v_iconst (pc2 := 10) C dX9_string_9 ki_m1 rfl ?_
    refine v_iconst (pc2 := 11) C dX9_string_10 ki_3 rfl ?_
    refine v_cSi (pc2 := 14) C kc_X9_73 (mX9_isWithin (xl X) Λ _ _ _ _) (by decide) rfl rfl (Nat.le_of_ble_eq_true rfl) dX9_string_11 rfl ?_
    refine v_ifne (pc2 := 24) (pc3 := 17) C dX9_string_14 rfl rfl (fun h14 => ?_) (fun h14 => ?_)
    · have hres := (if_neg h14).symm.trans hres
      refine v_aload_n (pc2 := 25) C 0 dX9_string_24 rfl rfl ?_
      refine vg_X9_field (pc2 := 28) C lf_X9_10 dX9_string_25 rfl ?_
      refine vg_X0_rows (pc2 := 31) C lf_X9_93 dX9_string_28 rfl ?_
      refine v_iload_n (pc2 := 32) C 1 dX9_string_31 rfl rfl ?_
      have in32 : vp_in a1 10 := isRow_in hs h5
      refine v_aald (pc2 := 33) C in32 dX9_string_32 rfl ?_
      refine v_astore_n (pc2 := 34) (lv2 := [(3, _), (0, _), (1, _), (2, _)]) C dX9_string_33 (by decide) rfl rfl ?_
      refine v_aload_n (pc2 := 35) C 0 dX9_string_34 rfl rfl ?_
      refine vg_X3_inString (pc2 := 38) C (vlt in32) lf_X9_125 dX9_string_35 rfl ?_
      refine v_istore (pc2 := 40) (lv2 := [(4, _), (3, _), (0, _), (1, _), (2, _)]) C dX9_string_38 (by decide) rfl rfl ?_
      refine v_aload_n (pc2 := 41) C 1 dX9_string_40 rfl rfl ?_
      refine v_iload_n (pc2 := 42) C 4 dX9_string_41 rfl rfl ?_
      refine vp_X3_inString (pc2 := 45) C (vlt in32) lf_X9_125 dX9_string_42 rfl ?_
      refine v_iload (pc2 := 47) C 0 dX9_string_45 rfl rfl ?_
      exact r_iS C E hres dX9_string_47
    · have hres := (if_pos h14).symm.trans hres
      refine v_aload_n (pc2 := 18) C 0 dX9_string_17 rfl rfl ?_
      refine v_ldc (pc2 := 20) C lc_X9_80 dX9_string_18 rfl ?_
      refine v_cVi (pc2 := 23) C kc_X9_81 (mX9_answer (xl X) Λ _ _ an1) (wd0 Λ _) rfl (by decide) rfl rfl (Nat.le_of_ble_eq_true rfl) dX9_string_20 rfl ?_
      exact r_iS C E hres dX9_string_23
theorem mX9_string (l : Launch) (Λ : LY) (σ : St) (a1 : Int32) (a2 : Int32) (hs : Safe σ) : CT l Λ yX9_string cX9_string 5 (some .int) 2 43 [.ref (adr Λ 0), .int (a1), .int (a2)] σ (some (.int (f9_string σ a1 a2).1)) (f9_string σ a1 a2).2 := by
  refine CT_of (by decide +kernel) (Nat.le_of_ble_eq_true rfl) ?_
  intro X hX C E
  obtain ⟨res, hres⟩ : ∃ r, (f9_string σ a1 a2) = r := ⟨_, rfl⟩
  rw [hres] at E
  exact bf9_string C E _ _ _  hs hres
def f9_ceiling (σ : St) (a1 : Int32) (a2 : Int32) : Int32 × St :=
  (if (f9_isString a1) = (0 : Int32) then (((f9_answer σ (-1000000001 : Int32)).1), ((f9_answer σ (-1000000001 : Int32)).2)) else (if (f9_isWithin a2 (0 : Int32) (1000000 : Int32)) = (0 : Int32) then (((f9_answer σ (-1000000001 : Int32)).1), ((f9_answer σ (-1000000001 : Int32)).2)) else ((gA σ 4 (Int32.toNatClampNeg a1)), (uA σ 4 (Int32.toNatClampNeg a1) a2))))
set_option maxHeartbeats 4000000 in
set_option maxRecDepth 100000 in
theorem bf9_ceiling {X : CX} {Λ : LY} (C : OK X Λ cX9_ceiling 4 RX9 2 42) {res : Int32 × St} (E : EN X Λ (some .int) (some (.int res.1)) res.2) (σ : St) (a1 : Int32) (a2 : Int32)  (hres : (f9_ceiling σ a1 a2) = res) : VV X Λ 4 0 [(0, .ref (adr Λ 0)), (1, .int (a1)), (2, .int (a2))] [] σ := by
  unfold f9_ceiling at hres
  refine v_iload_n (pc2 := 1) C 1 dX9_ceiling_0 rfl rfl ?_
  refine v_cSi (pc2 := 4) C kc_X9_197 (mX9_isString (xl X) Λ _ _) (by decide) rfl rfl (Nat.le_of_ble_eq_true rfl) dX9_ceiling_1 rfl ?_
  refine v_ifeq (pc2 := 17) (pc3 := 7) C dX9_ceiling_4 rfl rfl (fun h4 => ?_) (fun h4 => ?_)
  · have hres := (if_pos h4).symm.trans hres
    refine v_aload_n (pc2 := 18) C 0 dX9_ceiling_17 rfl rfl ?_
    refine v_ldc (pc2 := 20) C lc_X9_80 dX9_ceiling_18 rfl ?_
    refine v_cVi (pc2 := 23) C kc_X9_81 (mX9_answer (xl X) Λ _ _ an1) (wd0 Λ _) rfl (by decide) rfl rfl (Nat.le_of_ble_eq_true rfl) dX9_ceiling_20 rfl ?_
    exact r_iS C E hres dX9_ceiling_23
  · have hres := (if_neg h4).symm.trans hres
    refine v_iload_n (pc2 := 8) C 2 dX9_ceiling_7 rfl rfl ?_
    refine v_iconst (pc2 := 9) C dX9_ceiling_8 ki_0 rfl ?_
    refine v_ldc (pc2 := 11) C lc_X9_200 dX9_ceiling_9 rfl ?_
    refine v_cSi (pc2 := 14) C kc_X9_73 (mX9_isWithin (xl X) Λ _ _ _ _) (by decide) rfl rfl (Nat.le_of_ble_eq_true rfl) dX9_ceiling_11 rfl ?_
    refine v_ifne (pc2 := 24) (pc3 := 17) C dX9_ceiling_14 rfl rfl (fun h14 => ?_) (fun h14 => ?_)
    · have hres := (if_neg h14).symm.trans hres
      refine v_aload_n (pc2 := 25) C 0 dX9_ceiling_24 rfl rfl ?_
      refine vg_X9_strings (pc2 := 28) C lf_X9_26 dX9_ceiling_25 rfl ?_
      refine vg_X5_ceilings (pc2 := 31) C lf_X9_201 dX9_ceiling_28 rfl ?_
      refine v_iload_n (pc2 := 32) C 1 dX9_ceiling_31 rfl rfl ?_
      refine al16 (pc2 := 33) C (isString_in h4) dX9_ceiling_32 rfl ?_
      refine v_istore_n (pc2 := 34) (lv2 := [(3, _), (0, _), (1, _), (2, _)]) C dX9_ceiling_33 (by decide) rfl rfl ?_
      refine v_aload_n (pc2 := 35) C 1 dX9_ceiling_34 rfl rfl ?_
      refine vg_X9_strings (pc2 := 38) C lf_X9_26 dX9_ceiling_35 rfl ?_
      refine vg_X5_ceilings (pc2 := 41) C lf_X9_201 dX9_ceiling_38 rfl ?_
      refine v_iload_n (pc2 := 42) C 2 dX9_ceiling_41 rfl rfl ?_
      refine v_iload_n (pc2 := 43) C 3 dX9_ceiling_42 rfl rfl ?_
      refine as16 (pc2 := 44) C (isString_in h4) dX9_ceiling_43 rfl ?_
      refine v_iload_n (pc2 := 45) C 0 dX9_ceiling_44 rfl rfl ?_
      exact r_iS C E hres dX9_ceiling_45
    · have hres := (if_pos h14).symm.trans hres
      refine v_aload_n (pc2 := 18) C 0 dX9_ceiling_17 rfl rfl ?_
      refine v_ldc (pc2 := 20) C lc_X9_80 dX9_ceiling_18 rfl ?_
      refine v_cVi (pc2 := 23) C kc_X9_81 (mX9_answer (xl X) Λ _ _ an1) (wd0 Λ _) rfl (by decide) rfl rfl (Nat.le_of_ble_eq_true rfl) dX9_ceiling_20 rfl ?_
      exact r_iS C E hres dX9_ceiling_23
theorem mX9_ceiling (l : Launch) (Λ : LY) (σ : St) (a1 : Int32) (a2 : Int32)  : CT l Λ yX9_ceiling cX9_ceiling 4 (some .int) 2 42 [.ref (adr Λ 0), .int (a1), .int (a2)] σ (some (.int (f9_ceiling σ a1 a2).1)) (f9_ceiling σ a1 a2).2 := by
  refine CT_of (by decide +kernel) (Nat.le_of_ble_eq_true rfl) ?_
  intro X hX C E
  obtain ⟨res, hres⟩ : ∃ r, (f9_ceiling σ a1 a2) = r := ⟨_, rfl⟩
  rw [hres] at E
  exact bf9_ceiling C E _ _ _   hres
def f9_current (σ : St) (a1 : Int32) (a2 : Int32) : Int32 × St :=
  (if (f9_findingOfSight σ a1 a2) = (0 : Int32) then ((gA (f0_weigh (f9_lookFrom σ a2) a1) 1 (Int32.toNatClampNeg a1)), (f0_weigh (f9_lookFrom σ a2) a1)) else (((f9_answer σ (f9_findingOfSight σ a1 a2)).1), ((f9_answer σ (f9_findingOfSight σ a1 a2)).2)))
set_option maxHeartbeats 4000000 in
set_option maxRecDepth 100000 in
theorem bf9_current {X : CX} {Λ : LY} (C : OK X Λ cX9_current 4 RX9 5 112) {res : Int32 × St} (E : EN X Λ (some .int) (some (.int res.1)) res.2) (σ : St) (a1 : Int32) (a2 : Int32) (hs : Safe σ) (hres : (f9_current σ a1 a2) = res) : VV X Λ 4 0 [(0, .ref (adr Λ 0)), (1, .int (a1)), (2, .int (a2))] [] σ := by
  unfold f9_current at hres
  refine v_aload_n (pc2 := 1) C 0 dX9_current_0 rfl rfl ?_
  refine v_iload_n (pc2 := 2) C 1 dX9_current_1 rfl rfl ?_
  refine v_iload_n (pc2 := 3) C 2 dX9_current_2 rfl rfl ?_
  refine v_cVi (pc2 := 6) C kc_X9_167 (mX9_findingOfSight (xl X) Λ _ _ _) (wd0 Λ _) rfl (by decide) rfl rfl (Nat.le_of_ble_eq_true rfl) dX9_current_3 rfl ?_
  refine v_istore_n (pc2 := 7) (lv2 := [(3, _), (0, _), (1, _), (2, _)]) C dX9_current_6 (by decide) rfl rfl ?_
  refine v_iload_n (pc2 := 8) C 0 dX9_current_7 rfl rfl ?_
  refine v_ifeq (pc2 := 17) (pc3 := 11) C dX9_current_8 rfl rfl (fun h8 => ?_) (fun h8 => ?_)
  · have hres := (if_pos h8).symm.trans hres
    refine v_aload_n (pc2 := 18) C 1 dX9_current_17 rfl rfl ?_
    refine v_iload_n (pc2 := 19) C 3 dX9_current_18 rfl rfl ?_
    refine v_cVv (pc2 := 22) C kc_X9_170 (mX9_lookFrom (xl X) Λ _ _ hs (fs_hour h8)) (wd0 Λ _) rfl (by decide) rfl rfl (Nat.le_of_ble_eq_true rfl) dX9_current_19 rfl ?_
    refine v_aload_n (pc2 := 23) C 1 dX9_current_22 rfl rfl ?_
    refine vg_X9_field (pc2 := 26) C lf_X9_10 dX9_current_23 rfl ?_
    refine v_iload_n (pc2 := 27) C 2 dX9_current_26 rfl rfl ?_
    refine v_cVv (pc2 := 30) C kc_X9_204 (mX0_weigh (xl X) Λ _ _ (sX9_lookFrom hs) (fs_row hs h8)) (wd1 Λ _) rfl (by decide) rfl rfl (Nat.le_of_ble_eq_true rfl) dX9_current_27 rfl ?_
    refine v_aload_n (pc2 := 31) C 1 dX9_current_30 rfl rfl ?_
    refine vg_X9_field (pc2 := 34) C lf_X9_10 dX9_current_31 rfl ?_
    refine vg_X0_currents (pc2 := 37) C lf_X9_207 dX9_current_34 rfl ?_
    refine v_iload_n (pc2 := 38) C 2 dX9_current_37 rfl rfl ?_
    refine al13 (pc2 := 39) C (fs_row hs h8) dX9_current_38 rfl ?_
    exact r_iS C E hres dX9_current_39
  · have hres := (if_neg h8).symm.trans hres
    refine v_aload_n (pc2 := 12) C 1 dX9_current_11 rfl rfl ?_
    refine v_iload_n (pc2 := 13) C 0 dX9_current_12 rfl rfl ?_
    refine v_cVi (pc2 := 16) C kc_X9_81 (mX9_answer (xl X) Λ _ _ (fs_in h8)) (wd0 Λ _) rfl (by decide) rfl rfl (Nat.le_of_ble_eq_true rfl) dX9_current_13 rfl ?_
    exact r_iS C E hres dX9_current_16
theorem mX9_current (l : Launch) (Λ : LY) (σ : St) (a1 : Int32) (a2 : Int32) (hs : Safe σ) : CT l Λ yX9_current cX9_current 4 (some .int) 5 112 [.ref (adr Λ 0), .int (a1), .int (a2)] σ (some (.int (f9_current σ a1 a2).1)) (f9_current σ a1 a2).2 := by
  refine CT_of (by decide +kernel) (Nat.le_of_ble_eq_true rfl) ?_
  intro X hX C E
  obtain ⟨res, hres⟩ : ∃ r, (f9_current σ a1 a2) = r := ⟨_, rfl⟩
  rw [hres] at E
  exact bf9_current C E _ _ _  hs hres
def f9_gives (σ : St) (a1 : Int32) (a2 : Int32) : Int32 × St :=
  (if (f9_isString a1) = (0 : Int32) then (((f9_answer σ (-1000000001 : Int32)).1), ((f9_answer σ (-1000000001 : Int32)).2)) else (if (f9_isHour a2) = (0 : Int32) then (((f9_answer σ (-1000000001 : Int32)).1), ((f9_answer σ (-1000000001 : Int32)).2)) else (if (f4_isNight σ a2) = (0 : Int32) then ((f5_best (f5_rank (f0_weighAll (f9_lookFrom σ a2)) a1)), (f5_rank (f0_weighAll (f9_lookFrom σ a2)) a1)) else (((f9_answer σ (-1000000002 : Int32)).1), ((f9_answer σ (-1000000002 : Int32)).2)))))
set_option maxHeartbeats 4000000 in
set_option maxRecDepth 100000 in
theorem bf9_gives {X : CX} {Λ : LY} (C : OK X Λ cX9_gives 3 RX9 6 133) {res : Int32 × St} (E : EN X Λ (some .int) (some (.int res.1)) res.2) (σ : St) (a1 : Int32) (a2 : Int32) (hs : Safe σ) (hres : (f9_gives σ a1 a2) = res) : VV X Λ 3 0 [(0, .ref (adr Λ 0)), (1, .int (a1)), (2, .int (a2))] [] σ := by
  unfold f9_gives at hres
  refine v_iload_n (pc2 := 1) C 1 dX9_gives_0 rfl rfl ?_
  refine v_cSi (pc2 := 4) C kc_X9_197 (mX9_isString (xl X) Λ _ _) (by decide) rfl rfl (Nat.le_of_ble_eq_true rfl) dX9_gives_1 rfl ?_
  refine v_ifeq (pc2 := 14) (pc3 := 7) C dX9_gives_4 rfl rfl (fun h4 => ?_) (fun h4 => ?_)
  · have hres := (if_pos h4).symm.trans hres
    refine v_aload_n (pc2 := 15) C 0 dX9_gives_14 rfl rfl ?_
    refine v_ldc (pc2 := 17) C lc_X9_80 dX9_gives_15 rfl ?_
    refine v_cVi (pc2 := 20) C kc_X9_81 (mX9_answer (xl X) Λ _ _ an1) (wd0 Λ _) rfl (by decide) rfl rfl (Nat.le_of_ble_eq_true rfl) dX9_gives_17 rfl ?_
    exact r_iS C E hres dX9_gives_20
  · have hres := (if_neg h4).symm.trans hres
    refine v_iload_n (pc2 := 8) C 2 dX9_gives_7 rfl rfl ?_
    refine v_cSi (pc2 := 11) C kc_X9_151 (mX9_isHour (xl X) Λ _ _) (by decide) rfl rfl (Nat.le_of_ble_eq_true rfl) dX9_gives_8 rfl ?_
    refine v_ifne (pc2 := 21) (pc3 := 14) C dX9_gives_11 rfl rfl (fun h11 => ?_) (fun h11 => ?_)
    · have hres := (if_neg h11).symm.trans hres
      refine v_aload_n (pc2 := 22) C 0 dX9_gives_21 rfl rfl ?_
      refine vg_X9_sky (pc2 := 25) C lf_X9_19 dX9_gives_22 rfl ?_
      refine v_iload_n (pc2 := 26) C 2 dX9_gives_25 rfl rfl ?_
      refine v_cVi (pc2 := 29) C kc_X9_139 (mX4_isNight (xl X) Λ _ _ (isHour_in h11)) (wd2 Λ _) rfl (by decide) rfl rfl (Nat.le_of_ble_eq_true rfl) dX9_gives_26 rfl ?_
      refine v_ifeq (pc2 := 39) (pc3 := 32) C dX9_gives_29 rfl rfl (fun h29 => ?_) (fun h29 => ?_)
      · have hres := (if_pos h29).symm.trans hres
        refine v_aload_n (pc2 := 40) C 0 dX9_gives_39 rfl rfl ?_
        refine v_iload_n (pc2 := 41) C 2 dX9_gives_40 rfl rfl ?_
        refine v_cVv (pc2 := 44) C kc_X9_170 (mX9_lookFrom (xl X) Λ _ _ hs (isHour_in h11)) (wd0 Λ _) rfl (by decide) rfl rfl (Nat.le_of_ble_eq_true rfl) dX9_gives_41 rfl ?_
        refine v_aload_n (pc2 := 45) C 0 dX9_gives_44 rfl rfl ?_
        refine vg_X9_field (pc2 := 48) C lf_X9_10 dX9_gives_45 rfl ?_
        refine v_cVv (pc2 := 51) C kc_X9_210 (mX0_weighAll (xl X) Λ _ (sX9_lookFrom hs)) (wd1 Λ _) rfl (by decide) rfl rfl (Nat.le_of_ble_eq_true rfl) dX9_gives_48 rfl ?_
        refine v_aload_n (pc2 := 52) C 0 dX9_gives_51 rfl rfl ?_
        refine vg_X9_strings (pc2 := 55) C lf_X9_26 dX9_gives_52 rfl ?_
        refine v_aload_n (pc2 := 56) C 0 dX9_gives_55 rfl rfl ?_
        refine vg_X9_field (pc2 := 59) C lf_X9_10 dX9_gives_56 rfl ?_
        refine v_iload_n (pc2 := 60) C 1 dX9_gives_59 rfl rfl ?_
        refine v_cVv (pc2 := 63) C kc_X9_213 (mX5_rank (xl X) Λ _ _ (sX0_weighAll (sX9_lookFrom hs))) (wd3 Λ _) rfl (by decide) rfl rfl (Nat.le_of_ble_eq_true rfl) dX9_gives_60 rfl ?_
        refine v_aload_n (pc2 := 64) C 0 dX9_gives_63 rfl rfl ?_
        refine vg_X9_strings (pc2 := 67) C lf_X9_26 dX9_gives_64 rfl ?_
        refine v_cVi (pc2 := 70) C kc_X9_217 (mX5_best (xl X) Λ _ (sX5_rank (sX0_weighAll (sX9_lookFrom hs)))) (wd3 Λ _) rfl (by decide) rfl rfl (Nat.le_of_ble_eq_true rfl) dX9_gives_67 rfl ?_
        exact r_iS C E hres dX9_gives_70
      · have hres := (if_neg h29).symm.trans hres
        refine v_aload_n (pc2 := 33) C 0 dX9_gives_32 rfl rfl ?_
        refine v_ldc (pc2 := 35) C lc_X9_103 dX9_gives_33 rfl ?_
        refine v_cVi (pc2 := 38) C kc_X9_81 (mX9_answer (xl X) Λ _ _ an2) (wd0 Λ _) rfl (by decide) rfl rfl (Nat.le_of_ble_eq_true rfl) dX9_gives_35 rfl ?_
        exact r_iS C E hres dX9_gives_38
    · have hres := (if_pos h11).symm.trans hres
      refine v_aload_n (pc2 := 15) C 0 dX9_gives_14 rfl rfl ?_
      refine v_ldc (pc2 := 17) C lc_X9_80 dX9_gives_15 rfl ?_
      refine v_cVi (pc2 := 20) C kc_X9_81 (mX9_answer (xl X) Λ _ _ an1) (wd0 Λ _) rfl (by decide) rfl rfl (Nat.le_of_ble_eq_true rfl) dX9_gives_17 rfl ?_
      exact r_iS C E hres dX9_gives_20
theorem mX9_gives (l : Launch) (Λ : LY) (σ : St) (a1 : Int32) (a2 : Int32) (hs : Safe σ) : CT l Λ yX9_gives cX9_gives 3 (some .int) 6 133 [.ref (adr Λ 0), .int (a1), .int (a2)] σ (some (.int (f9_gives σ a1 a2).1)) (f9_gives σ a1 a2).2 := by
  refine CT_of (by decide +kernel) (Nat.le_of_ble_eq_true rfl) ?_
  intro X hX C E
  obtain ⟨res, hres⟩ : ∃ r, (f9_gives σ a1 a2) = r := ⟨_, rfl⟩
  rw [hres] at E
  exact bf9_gives C E _ _ _  hs hres
def f9_wind (σ : St) (a1 : Int32) (a2 : Int32) : Int32 × St :=
  (if (f9_isHour a1) = (0 : Int32) then (((f9_answer σ (-1000000001 : Int32)).1), ((f9_answer σ (-1000000001 : Int32)).2)) else (if (f9_isWithin a2 (-1 : Int32) (200 : Int32)) = (0 : Int32) then (((f9_answer σ (-1000000001 : Int32)).1), ((f9_answer σ (-1000000001 : Int32)).2)) else (if a2 = (-1 : Int32) then ((0 : Int32), (uA σ 6 (Int32.toNatClampNeg a1) a2)) else ((1 : Int32), (uA σ 6 (Int32.toNatClampNeg a1) a2)))))
set_option maxHeartbeats 4000000 in
set_option maxRecDepth 100000 in
theorem bf9_wind {X : CX} {Λ : LY} (C : OK X Λ cX9_wind 3 RX9 2 42) {res : Int32 × St} (E : EN X Λ (some .int) (some (.int res.1)) res.2) (σ : St) (a1 : Int32) (a2 : Int32)  (hres : (f9_wind σ a1 a2) = res) : VV X Λ 3 0 [(0, .ref (adr Λ 0)), (1, .int (a1)), (2, .int (a2))] [] σ := by
  unfold f9_wind at hres
  refine v_iload_n (pc2 := 1) C 1 dX9_wind_0 rfl rfl ?_
  refine v_cSi (pc2 := 4) C kc_X9_151 (mX9_isHour (xl X) Λ _ _) (by decide) rfl rfl (Nat.le_of_ble_eq_true rfl) dX9_wind_1 rfl ?_
  refine v_ifeq (pc2 := 18) (pc3 := 7) C dX9_wind_4 rfl rfl (fun h4 => ?_) (fun h4 => ?_)
  · have hres := (if_pos h4).symm.trans hres
    refine v_aload_n (pc2 := 19) C 0 dX9_wind_18 rfl rfl ?_
    refine v_ldc (pc2 := 21) C lc_X9_80 dX9_wind_19 rfl ?_
    refine v_cVi (pc2 := 24) C kc_X9_81 (mX9_answer (xl X) Λ _ _ an1) (wd0 Λ _) rfl (by decide) rfl rfl (Nat.le_of_ble_eq_true rfl) dX9_wind_21 rfl ?_
    exact r_iS C E hres dX9_wind_24
  · have hres := (if_neg h4).symm.trans hres
    refine v_iload_n (pc2 := 8) C 2 dX9_wind_7 rfl rfl ?_
    refine v_iconst (pc2 := 9) C dX9_wind_8 ki_m1 rfl ?_
    refine v_sipush (pc2 := 12) C dX9_wind_9 ks_200 rfl ?_
    refine v_cSi (pc2 := 15) C kc_X9_73 (mX9_isWithin (xl X) Λ _ _ _ _) (by decide) rfl rfl (Nat.le_of_ble_eq_true rfl) dX9_wind_12 rfl ?_
    refine v_ifne (pc2 := 25) (pc3 := 18) C dX9_wind_15 rfl rfl (fun h15 => ?_) (fun h15 => ?_)
    · have hres := (if_neg h15).symm.trans hres
      refine v_aload_n (pc2 := 26) C 0 dX9_wind_25 rfl rfl ?_
      refine vg_X9_weather (pc2 := 29) C lf_X9_33 dX9_wind_26 rfl ?_
      refine vg_X8_readings (pc2 := 32) C lf_X9_221 dX9_wind_29 rfl ?_
      refine v_iload_n (pc2 := 33) C 1 dX9_wind_32 rfl rfl ?_
      refine v_iload_n (pc2 := 34) C 2 dX9_wind_33 rfl rfl ?_
      refine as18 (pc2 := 35) C (isHour_in h4) dX9_wind_34 rfl ?_
      refine v_iload_n (pc2 := 36) C 2 dX9_wind_35 rfl rfl ?_
      refine v_iconst (pc2 := 37) C dX9_wind_36 ki_m1 rfl ?_
      refine v_icmpne (pc2 := 44) (pc3 := 40) C dX9_wind_37 rfl rfl (fun h37 => ?_) (fun h37 => ?_)
      · have hres := (if_neg h37).symm.trans hres
        refine v_iconst (pc2 := 45) C dX9_wind_44 ki_1 rfl ?_
        exact r_iS C E hres dX9_wind_45
      · have hres := (if_pos h37).symm.trans hres
        refine v_iconst (pc2 := 41) C dX9_wind_40 ki_0 rfl ?_
        refine v_goto (pc2 := 45) C dX9_wind_41 rfl ?_
        exact r_iS C E hres dX9_wind_45
    · have hres := (if_pos h15).symm.trans hres
      refine v_aload_n (pc2 := 19) C 0 dX9_wind_18 rfl rfl ?_
      refine v_ldc (pc2 := 21) C lc_X9_80 dX9_wind_19 rfl ?_
      refine v_cVi (pc2 := 24) C kc_X9_81 (mX9_answer (xl X) Λ _ _ an1) (wd0 Λ _) rfl (by decide) rfl rfl (Nat.le_of_ble_eq_true rfl) dX9_wind_21 rfl ?_
      exact r_iS C E hres dX9_wind_24
theorem mX9_wind (l : Launch) (Λ : LY) (σ : St) (a1 : Int32) (a2 : Int32)  : CT l Λ yX9_wind cX9_wind 3 (some .int) 2 42 [.ref (adr Λ 0), .int (a1), .int (a2)] σ (some (.int (f9_wind σ a1 a2).1)) (f9_wind σ a1 a2).2 := by
  refine CT_of (by decide +kernel) (Nat.le_of_ble_eq_true rfl) ?_
  intro X hX C E
  obtain ⟨res, hres⟩ : ∃ r, (f9_wind σ a1 a2) = r := ⟨_, rfl⟩
  rw [hres] at E
  exact bf9_wind C E _ _ _   hres
def f9_limit (σ : St) (a1 : Int32) : Int32 × St :=
  (if (f9_isWithin a1 (1 : Int32) (200 : Int32)) = (0 : Int32) then (((f9_answer σ (-1000000001 : Int32)).1), ((f9_answer σ (-1000000001 : Int32)).2)) else ((gI σ 5), (uI σ 5 a1)))
set_option maxHeartbeats 4000000 in
set_option maxRecDepth 100000 in
theorem bf9_limit {X : CX} {Λ : LY} (C : OK X Λ cX9_limit 3 RX9 1 22) {res : Int32 × St} (E : EN X Λ (some .int) (some (.int res.1)) res.2) (σ : St) (a1 : Int32)  (hres : (f9_limit σ a1) = res) : VV X Λ 3 0 [(0, .ref (adr Λ 0)), (1, .int (a1))] [] σ := by
  unfold f9_limit at hres
  refine v_iload_n (pc2 := 1) C 1 dX9_limit_0 rfl rfl ?_
  refine v_iconst (pc2 := 2) C dX9_limit_1 ki_1 rfl ?_
  refine v_sipush (pc2 := 5) C dX9_limit_2 ks_200 rfl ?_
  refine v_cSi (pc2 := 8) C kc_X9_73 (mX9_isWithin (xl X) Λ _ _ _ _) (by decide) rfl rfl (Nat.le_of_ble_eq_true rfl) dX9_limit_5 rfl ?_
  refine v_ifne (pc2 := 18) (pc3 := 11) C dX9_limit_8 rfl rfl (fun h8 => ?_) (fun h8 => ?_)
  · have hres := (if_neg h8).symm.trans hres
    refine v_aload_n (pc2 := 19) C 0 dX9_limit_18 rfl rfl ?_
    refine vg_X9_weather (pc2 := 22) C lf_X9_33 dX9_limit_19 rfl ?_
    refine vg_X8_stowAt (pc2 := 25) C lf_X9_224 dX9_limit_22 rfl ?_
    refine v_istore_n (pc2 := 26) (lv2 := [(2, _), (0, _), (1, _)]) C dX9_limit_25 (by decide) rfl rfl ?_
    refine v_aload_n (pc2 := 27) C 1 dX9_limit_26 rfl rfl ?_
    refine vg_X9_weather (pc2 := 30) C lf_X9_33 dX9_limit_27 rfl ?_
    refine v_iload_n (pc2 := 31) C 2 dX9_limit_30 rfl rfl ?_
    refine vp_X8_stowAt (pc2 := 34) C lf_X9_224 dX9_limit_31 rfl ?_
    refine v_iload_n (pc2 := 35) C 0 dX9_limit_34 rfl rfl ?_
    exact r_iS C E hres dX9_limit_35
  · have hres := (if_pos h8).symm.trans hres
    refine v_aload_n (pc2 := 12) C 0 dX9_limit_11 rfl rfl ?_
    refine v_ldc (pc2 := 14) C lc_X9_80 dX9_limit_12 rfl ?_
    refine v_cVi (pc2 := 17) C kc_X9_81 (mX9_answer (xl X) Λ _ _ an1) (wd0 Λ _) rfl (by decide) rfl rfl (Nat.le_of_ble_eq_true rfl) dX9_limit_14 rfl ?_
    exact r_iS C E hres dX9_limit_17
theorem mX9_limit (l : Launch) (Λ : LY) (σ : St) (a1 : Int32)  : CT l Λ yX9_limit cX9_limit 3 (some .int) 1 22 [.ref (adr Λ 0), .int (a1)] σ (some (.int (f9_limit σ a1).1)) (f9_limit σ a1).2 := by
  refine CT_of (by decide +kernel) (Nat.le_of_ble_eq_true rfl) ?_
  intro X hX C E
  obtain ⟨res, hres⟩ : ∃ r, (f9_limit σ a1) = r := ⟨_, rfl⟩
  rw [hres] at E
  exact bf9_limit C E _ _   hres
def f9_cleaning (σ : St) (a1 : Int32) (a2 : Int32) : Int32 × St :=
  (if (f9_isHour a1) = (0 : Int32) then (((f9_answer σ (-1000000001 : Int32)).1), ((f9_answer σ (-1000000001 : Int32)).2)) else (if (gA σ 7 (Int32.toNatClampNeg a1)) = a2 then (if (0 : Int32) = (0 : Int32) then ((0 : Int32), (uA σ 7 (Int32.toNatClampNeg a1) (vp_nar .boolean a2))) else ((1 : Int32), (uA σ 7 (Int32.toNatClampNeg a1) (vp_nar .boolean a2)))) else (if (1 : Int32) = (0 : Int32) then ((0 : Int32), (uA σ 7 (Int32.toNatClampNeg a1) (vp_nar .boolean a2))) else ((1 : Int32), (uA σ 7 (Int32.toNatClampNeg a1) (vp_nar .boolean a2))))))
set_option maxHeartbeats 4000000 in
set_option maxRecDepth 100000 in
theorem bf9_cleaning {X : CX} {Λ : LY} (C : OK X Λ cX9_cleaning 4 RX9 2 42) {res : Int32 × St} (E : EN X Λ (some .int) (some (.int res.1)) res.2) (σ : St) (a1 : Int32) (a2 : Int32)  (hres : (f9_cleaning σ a1 a2) = res) : VV X Λ 4 0 [(0, .ref (adr Λ 0)), (1, .int (a1)), (2, .int (a2))] [] σ := by
  unfold f9_cleaning at hres
  refine v_iload_n (pc2 := 1) C 1 dX9_cleaning_0 rfl rfl ?_
  refine v_cSi (pc2 := 4) C kc_X9_151 (mX9_isHour (xl X) Λ _ _) (by decide) rfl rfl (Nat.le_of_ble_eq_true rfl) dX9_cleaning_1 rfl ?_
  refine v_ifne (pc2 := 14) (pc3 := 7) C dX9_cleaning_4 rfl rfl (fun h4 => ?_) (fun h4 => ?_)
  · have hres := (if_neg h4).symm.trans hres
    refine v_aload_n (pc2 := 15) C 0 dX9_cleaning_14 rfl rfl ?_
    refine vg_X9_weather (pc2 := 18) C lf_X9_33 dX9_cleaning_15 rfl ?_
    refine vg_X8_cleans (pc2 := 21) C lf_X9_227 dX9_cleaning_18 rfl ?_
    refine v_iload_n (pc2 := 22) C 1 dX9_cleaning_21 rfl rfl ?_
    refine al19 (pc2 := 23) C (isHour_in h4) dX9_cleaning_22 rfl ?_
    refine v_iload_n (pc2 := 24) C 2 dX9_cleaning_23 rfl rfl ?_
    refine v_icmpeq (pc2 := 31) (pc3 := 27) C dX9_cleaning_24 rfl rfl (fun h24 => ?_) (fun h24 => ?_)
    · have hres := (if_pos h24).symm.trans hres
      refine v_iconst (pc2 := 32) C dX9_cleaning_31 ki_0 rfl ?_
      refine v_istore_n (pc2 := 33) (lv2 := [(3, _), (0, _), (1, _), (2, _)]) C dX9_cleaning_32 (by decide) rfl rfl ?_
      refine v_aload_n (pc2 := 34) C 1 dX9_cleaning_33 rfl rfl ?_
      refine vg_X9_weather (pc2 := 37) C lf_X9_33 dX9_cleaning_34 rfl ?_
      refine vg_X8_cleans (pc2 := 40) C lf_X9_227 dX9_cleaning_37 rfl ?_
      refine v_iload_n (pc2 := 41) C 2 dX9_cleaning_40 rfl rfl ?_
      refine v_iload_n (pc2 := 42) C 3 dX9_cleaning_41 rfl rfl ?_
      refine as19 (pc2 := 43) C (isHour_in h4) dX9_cleaning_42 rfl ?_
      refine v_iload_n (pc2 := 44) C 0 dX9_cleaning_43 rfl rfl ?_
      refine v_ifeq (pc2 := 51) (pc3 := 47) C dX9_cleaning_44 rfl rfl (fun h44 => ?_) (fun h44 => ?_)
      · have hres := (if_pos h44).symm.trans hres
        refine v_iconst (pc2 := 52) C dX9_cleaning_51 ki_0 rfl ?_
        exact r_iS C E hres dX9_cleaning_52
      · have hres := (if_neg h44).symm.trans hres
        refine v_iconst (pc2 := 48) C dX9_cleaning_47 ki_1 rfl ?_
        refine v_goto (pc2 := 52) C dX9_cleaning_48 rfl ?_
        exact r_iS C E hres dX9_cleaning_52
    · have hres := (if_neg h24).symm.trans hres
      refine v_iconst (pc2 := 28) C dX9_cleaning_27 ki_1 rfl ?_
      refine v_goto (pc2 := 32) C dX9_cleaning_28 rfl ?_
      refine v_istore_n (pc2 := 33) (lv2 := [(3, _), (0, _), (1, _), (2, _)]) C dX9_cleaning_32 (by decide) rfl rfl ?_
      refine v_aload_n (pc2 := 34) C 1 dX9_cleaning_33 rfl rfl ?_
      refine vg_X9_weather (pc2 := 37) C lf_X9_33 dX9_cleaning_34 rfl ?_
      refine vg_X8_cleans (pc2 := 40) C lf_X9_227 dX9_cleaning_37 rfl ?_
      refine v_iload_n (pc2 := 41) C 2 dX9_cleaning_40 rfl rfl ?_
      refine v_iload_n (pc2 := 42) C 3 dX9_cleaning_41 rfl rfl ?_
      refine as19 (pc2 := 43) C (isHour_in h4) dX9_cleaning_42 rfl ?_
      refine v_iload_n (pc2 := 44) C 0 dX9_cleaning_43 rfl rfl ?_
      refine v_ifeq (pc2 := 51) (pc3 := 47) C dX9_cleaning_44 rfl rfl (fun h44 => ?_) (fun h44 => ?_)
      · have hres := (if_pos h44).symm.trans hres
        refine v_iconst (pc2 := 52) C dX9_cleaning_51 ki_0 rfl ?_
        exact r_iS C E hres dX9_cleaning_52
      · have hres := (if_neg h44).symm.trans hres
        refine v_iconst (pc2 := 48) C dX9_cleaning_47 ki_1 rfl ?_
        refine v_goto (pc2 := 52) C dX9_cleaning_48 rfl ?_
        exact r_iS C E hres dX9_cleaning_52
  · have hres := (if_pos h4).symm.trans hres
    refine v_aload_n (pc2 := 8) C 0 dX9_cleaning_7 rfl rfl ?_
    refine v_ldc (pc2 := 10) C lc_X9_80 dX9_cleaning_8 rfl ?_
    refine v_cVi (pc2 := 13) C kc_X9_81 (mX9_answer (xl X) Λ _ _ an1) (wd0 Λ _) rfl (by decide) rfl rfl (Nat.le_of_ble_eq_true rfl) dX9_cleaning_10 rfl ?_
    exact r_iS C E hres dX9_cleaning_13
theorem mX9_cleaning (l : Launch) (Λ : LY) (σ : St) (a1 : Int32) (a2 : Int32)  : CT l Λ yX9_cleaning cX9_cleaning 4 (some .int) 2 42 [.ref (adr Λ 0), .int (a1), .int (a2)] σ (some (.int (f9_cleaning σ a1 a2).1)) (f9_cleaning σ a1 a2).2 := by
  refine CT_of (by decide +kernel) (Nat.le_of_ble_eq_true rfl) ?_
  intro X hX C E
  obtain ⟨res, hres⟩ : ∃ r, (f9_cleaning σ a1 a2) = r := ⟨_, rfl⟩
  rw [hres] at E
  exact bf9_cleaning C E _ _ _   hres
def f9_targetStep (σ : St) (a1 : Int32) (a2 : Int32) : Int32 × St :=
  (if a2 = (1 : Int32) then ((-12 : Int32), σ) else (if a2 = (2 : Int32) then ((0 : Int32), σ) else (if (f4_isNight σ a1) = (0 : Int32) then (if ((f0_backStep σ (gA σ 2 (Int32.toNatClampNeg a1)) (gA σ 3 (Int32.toNatClampNeg a1))).1) = (99 : Int32) then ((f0_idealStep (gA ((f0_backStep σ (gA σ 2 (Int32.toNatClampNeg a1)) (gA σ 3 (Int32.toNatClampNeg a1))).2) 2 (Int32.toNatClampNeg a1)) (gA ((f0_backStep σ (gA σ 2 (Int32.toNatClampNeg a1)) (gA σ 3 (Int32.toNatClampNeg a1))).2) 3 (Int32.toNatClampNeg a1))), ((f0_backStep σ (gA σ 2 (Int32.toNatClampNeg a1)) (gA σ 3 (Int32.toNatClampNeg a1))).2)) else (((f0_backStep σ (gA σ 2 (Int32.toNatClampNeg a1)) (gA σ 3 (Int32.toNatClampNeg a1))).1), ((f0_backStep σ (gA σ 2 (Int32.toNatClampNeg a1)) (gA σ 3 (Int32.toNatClampNeg a1))).2))) else ((0 : Int32), σ))))
set_option maxHeartbeats 4000000 in
set_option maxRecDepth 100000 in
theorem bf9_targetStep {X : CX} {Λ : LY} (C : OK X Λ cX9_targetStep 4 RX9 5 118) {res : Int32 × St} (E : EN X Λ (some .int) (some (.int res.1)) res.2) (σ : St) (a1 : Int32) (a2 : Int32) (hs : Safe σ) (h1 : vp_in a1 24) (hres : (f9_targetStep σ a1 a2) = res) : VV X Λ 4 0 [(0, .ref (adr Λ 0)), (1, .int (a1)), (2, .int (a2))] [] σ := by
  unfold f9_targetStep at hres
  refine v_iload_n (pc2 := 1) C 2 dX9_targetStep_0 rfl rfl ?_
  refine v_iconst (pc2 := 2) C dX9_targetStep_1 ki_1 rfl ?_
  refine v_icmpne (pc2 := 8) (pc3 := 5) C dX9_targetStep_2 rfl rfl (fun h2 => ?_) (fun h2 => ?_)
  · have hres := (if_neg h2).symm.trans hres
    refine v_iload_n (pc2 := 9) C 2 dX9_targetStep_8 rfl rfl ?_
    refine v_iconst (pc2 := 10) C dX9_targetStep_9 ki_2 rfl ?_
    refine v_icmpeq (pc2 := 24) (pc3 := 13) C dX9_targetStep_10 rfl rfl (fun h10 => ?_) (fun h10 => ?_)
    · have hres := (if_pos h10).symm.trans hres
      refine v_iconst (pc2 := 25) C dX9_targetStep_24 ki_0 rfl ?_
      exact r_iS C E hres dX9_targetStep_25
    · have hres := (if_neg h10).symm.trans hres
      refine v_aload_n (pc2 := 14) C 0 dX9_targetStep_13 rfl rfl ?_
      refine vg_X9_sky (pc2 := 17) C lf_X9_19 dX9_targetStep_14 rfl ?_
      refine v_iload_n (pc2 := 18) C 1 dX9_targetStep_17 rfl rfl ?_
      refine v_cVi (pc2 := 21) C kc_X9_139 (mX4_isNight (xl X) Λ _ _ h1) (wd2 Λ _) rfl (by decide) rfl rfl (Nat.le_of_ble_eq_true rfl) dX9_targetStep_18 rfl ?_
      refine v_ifeq (pc2 := 26) (pc3 := 24) C dX9_targetStep_21 rfl rfl (fun h21 => ?_) (fun h21 => ?_)
      · have hres := (if_pos h21).symm.trans hres
        refine v_aload_n (pc2 := 27) C 0 dX9_targetStep_26 rfl rfl ?_
        refine vg_X9_field (pc2 := 30) C lf_X9_10 dX9_targetStep_27 rfl ?_
        refine v_aload_n (pc2 := 31) C 0 dX9_targetStep_30 rfl rfl ?_
        refine vg_X9_sky (pc2 := 34) C lf_X9_19 dX9_targetStep_31 rfl ?_
        refine vg_X4_x (pc2 := 37) C lf_X9_154 dX9_targetStep_34 rfl ?_
        refine v_iload_n (pc2 := 38) C 1 dX9_targetStep_37 rfl rfl ?_
        refine al14 (pc2 := 39) C h1 dX9_targetStep_38 rfl ?_
        refine v_aload_n (pc2 := 40) C 0 dX9_targetStep_39 rfl rfl ?_
        refine vg_X9_sky (pc2 := 43) C lf_X9_19 dX9_targetStep_40 rfl ?_
        refine vg_X4_y (pc2 := 46) C lf_X9_157 dX9_targetStep_43 rfl ?_
        refine v_iload_n (pc2 := 47) C 1 dX9_targetStep_46 rfl rfl ?_
        refine al15 (pc2 := 48) C h1 dX9_targetStep_47 rfl ?_
        refine v_cVi (pc2 := 51) C kc_X9_164 (mX0_backStep (xl X) Λ _ _ _ hs) (wd1 Λ _) rfl (by decide) rfl rfl (Nat.le_of_ble_eq_true rfl) dX9_targetStep_48 rfl ?_
        refine v_istore_n (pc2 := 52) (lv2 := [(3, _), (0, _), (1, _), (2, _)]) C dX9_targetStep_51 (by decide) rfl rfl ?_
        refine v_iload_n (pc2 := 53) C 0 dX9_targetStep_52 rfl rfl ?_
        refine v_bipush (pc2 := 55) C dX9_targetStep_53 kb_99 rfl ?_
        refine v_icmpne (pc2 := 86) (pc3 := 58) C dX9_targetStep_55 rfl rfl (fun h55 => ?_) (fun h55 => ?_)
        · have hres := (if_neg h55).symm.trans hres
          refine v_iload_n (pc2 := 87) C 0 dX9_targetStep_86 rfl rfl ?_
          exact r_iS C E hres dX9_targetStep_87
        · have hres := (if_pos h55).symm.trans hres
          refine v_aload_n (pc2 := 59) C 1 dX9_targetStep_58 rfl rfl ?_
          refine vg_X9_field (pc2 := 62) C lf_X9_10 dX9_targetStep_59 rfl ?_
          refine v_aload_n (pc2 := 63) C 1 dX9_targetStep_62 rfl rfl ?_
          refine vg_X9_sky (pc2 := 66) C lf_X9_19 dX9_targetStep_63 rfl ?_
          refine vg_X4_x (pc2 := 69) C lf_X9_154 dX9_targetStep_66 rfl ?_
          refine v_iload_n (pc2 := 70) C 2 dX9_targetStep_69 rfl rfl ?_
          refine al14 (pc2 := 71) C h1 dX9_targetStep_70 rfl ?_
          refine v_aload_n (pc2 := 72) C 1 dX9_targetStep_71 rfl rfl ?_
          refine vg_X9_sky (pc2 := 75) C lf_X9_19 dX9_targetStep_72 rfl ?_
          refine vg_X4_y (pc2 := 78) C lf_X9_157 dX9_targetStep_75 rfl ?_
          refine v_iload_n (pc2 := 79) C 2 dX9_targetStep_78 rfl rfl ?_
          refine al15 (pc2 := 80) C h1 dX9_targetStep_79 rfl ?_
          refine v_cVi (pc2 := 83) C kc_X9_160 (mX0_idealStep (xl X) Λ _ _ _) (wd1 Λ _) rfl (by decide) rfl rfl (Nat.le_of_ble_eq_true rfl) dX9_targetStep_80 rfl ?_
          refine v_goto (pc2 := 87) C dX9_targetStep_83 rfl ?_
          exact r_iS C E hres dX9_targetStep_87
      · have hres := (if_neg h21).symm.trans hres
        refine v_iconst (pc2 := 25) C dX9_targetStep_24 ki_0 rfl ?_
        exact r_iS C E hres dX9_targetStep_25
  · have hres := (if_pos h2).symm.trans hres
    refine v_bipush (pc2 := 7) C dX9_targetStep_5 kb_m12 rfl ?_
    exact r_iS C E hres dX9_targetStep_7
theorem mX9_targetStep (l : Launch) (Λ : LY) (σ : St) (a1 : Int32) (a2 : Int32) (hs : Safe σ) (h1 : vp_in a1 24) : CT l Λ yX9_targetStep cX9_targetStep 4 (some .int) 5 118 [.ref (adr Λ 0), .int (a1), .int (a2)] σ (some (.int (f9_targetStep σ a1 a2).1)) (f9_targetStep σ a1 a2).2 := by
  refine CT_of (by decide +kernel) (Nat.le_of_ble_eq_true rfl) ?_
  intro X hX C E
  obtain ⟨res, hres⟩ : ∃ r, (f9_targetStep σ a1 a2) = r := ⟨_, rfl⟩
  rw [hres] at E
  exact bf9_targetStep C E _ _ _  hs h1 hres
theorem sX9_targetStep {σ : St} {a b : Int32} (h : Safe σ) : Safe (f9_targetStep σ a b).2 := by
  unfold f9_targetStep
  split
  · exact h
  · split
    · exact h
    · split
      · split
        · dsimp only; exact sX0_backStep h
        · dsimp only; exact sX0_backStep h
      · exact h
theorem ts_rg (σ : St) (a b : Int32) : -12 ≤ (f9_targetStep σ a b).1.toInt ∧ (f9_targetStep σ a b).1.toInt ≤ 12 := by
  unfold f9_targetStep
  split
  · exact (by decide +kernel : -12 ≤ ((-12 : Int32)).toInt ∧ ((-12 : Int32)).toInt ≤ 12)
  · split
    · exact (by decide +kernel : -12 ≤ ((0 : Int32)).toInt ∧ ((0 : Int32)).toInt ≤ 12)
    · split
      · split
        · dsimp only; exact id_rg _ _
        · rename_i h1
          rcases bk_rg σ (gA σ 2 (Int32.toNatClampNeg a)) (gA σ 3 (Int32.toNatClampNeg a)) with h | h
          · exact absurd h h1
          · dsimp only; exact h
      · exact (by decide +kernel : -12 ≤ ((0 : Int32)).toInt ∧ ((0 : Int32)).toInt ≤ 12)
def f9_passHour_f (σ : St) (h : Int32) (z : Int32) (t : Int32) : St :=
  (if z = (1 : Int32) then (uI (uI (f0_washAll (f1_addToSums σ)) 1 t) 0 ((h + (1 : Int32)) - (h + (1 : Int32)) / (24 : Int32) * (24 : Int32))) else (uI (uI (f1_addToSums σ) 1 t) 0 ((h + (1 : Int32)) - (h + (1 : Int32)) / (24 : Int32) * (24 : Int32))))
set_option maxHeartbeats 4000000 in
set_option maxRecDepth 100000 in
theorem bf9_passHour_f {X : CX} {Λ : LY} (C : OK X Λ cX9_passHour 5 RX9 6 141) {res : St} (E : EN X Λ none none res) (σ : St) (h : Int32) (z : Int32) (t : Int32) (hs : Safe σ) (hres : (f9_passHour_f σ h z t) = res) : VV X Λ 5 123 [(0, .ref (adr Λ 0)), (1, .int (h)), (3, .int (z)), (4, .int (t))] [] σ := by
  unfold f9_passHour_f at hres
  refine v_aload_n (pc2 := 124) C 0 dX9_passHour_123 rfl rfl ?_
  refine vg_X9_ledger (pc2 := 127) C lf_X9_40 dX9_passHour_124 rfl ?_
  refine v_cVv (pc2 := 130) C kc_X9_297 (mX1_addToSums (xl X) Λ _ ) (wd5 Λ _) rfl (by decide) rfl rfl (Nat.le_of_ble_eq_true rfl) dX9_passHour_127 rfl ?_
  refine v_iload_n (pc2 := 131) C 2 dX9_passHour_130 rfl rfl ?_
  refine v_iconst (pc2 := 132) C dX9_passHour_131 ki_1 rfl ?_
  refine v_icmpne (pc2 := 142) (pc3 := 135) C dX9_passHour_132 rfl rfl (fun h132 => ?_) (fun h132 => ?_)
  · have hres := (if_neg h132).symm.trans hres
    refine v_aload_n (pc2 := 143) C 0 dX9_passHour_142 rfl rfl ?_
    refine v_iload (pc2 := 145) C 3 dX9_passHour_143 rfl rfl ?_
    refine vp_X9_latestTarget (pc2 := 148) C lf_X9_66 dX9_passHour_145 rfl ?_
    refine v_aload_n (pc2 := 149) C 0 dX9_passHour_148 rfl rfl ?_
    refine v_iload_n (pc2 := 150) C 1 dX9_passHour_149 rfl rfl ?_
    refine v_iconst (pc2 := 151) C dX9_passHour_150 ki_1 rfl ?_
    refine v_iadd (pc2 := 152) C dX9_passHour_151 rfl ?_
    refine v_bipush (pc2 := 154) C dX9_passHour_152 kb_24 rfl ?_
    refine v_irem (pc2 := 155) C dX9_passHour_154 (by decide) rfl ?_
    refine vp_X9_nextHour (pc2 := 158) C lf_X9_62 dX9_passHour_155 rfl ?_
    exact r_vS C E hres dX9_passHour_158
  · have hres := (if_pos h132).symm.trans hres
    refine v_aload_n (pc2 := 136) C 0 dX9_passHour_135 rfl rfl ?_
    refine vg_X9_field (pc2 := 139) C lf_X9_10 dX9_passHour_136 rfl ?_
    refine v_cVv (pc2 := 142) C kc_X9_300 (mX0_washAll (xl X) Λ _ (sX1_addToSums hs)) (wd1 Λ _) rfl (by decide) rfl rfl (Nat.le_of_ble_eq_true rfl) dX9_passHour_139 rfl ?_
    refine v_aload_n (pc2 := 143) C 0 dX9_passHour_142 rfl rfl ?_
    refine v_iload (pc2 := 145) C 3 dX9_passHour_143 rfl rfl ?_
    refine vp_X9_latestTarget (pc2 := 148) C lf_X9_66 dX9_passHour_145 rfl ?_
    refine v_aload_n (pc2 := 149) C 0 dX9_passHour_148 rfl rfl ?_
    refine v_iload_n (pc2 := 150) C 1 dX9_passHour_149 rfl rfl ?_
    refine v_iconst (pc2 := 151) C dX9_passHour_150 ki_1 rfl ?_
    refine v_iadd (pc2 := 152) C dX9_passHour_151 rfl ?_
    refine v_bipush (pc2 := 154) C dX9_passHour_152 kb_24 rfl ?_
    refine v_irem (pc2 := 155) C dX9_passHour_154 (by decide) rfl ?_
    refine vp_X9_nextHour (pc2 := 158) C lf_X9_62 dX9_passHour_155 rfl ?_
    exact r_vS C E hres dX9_passHour_158
def f9_passHour_e (σ : St) (h : Int32) (z : Int32) (t : Int32) : St :=
  (if (f4_isNight σ h) = (0 : Int32) then (f9_passHour_f (f5_bookInto (f0_weighAll (f9_lookFrom σ h))) h z t) else (f9_passHour_f σ h z t))
set_option maxHeartbeats 4000000 in
set_option maxRecDepth 100000 in
theorem bf9_passHour_e {X : CX} {Λ : LY} (C : OK X Λ cX9_passHour 5 RX9 6 141) {res : St} (E : EN X Λ none none res) (σ : St) (h : Int32) (z : Int32) (t : Int32) (hs : Safe σ) (hh : vp_in h 24) (hres : (f9_passHour_e σ h z t) = res) : VV X Λ 5 85 [(0, .ref (adr Λ 0)), (1, .int (h)), (3, .int (z)), (4, .int (t))] [] σ := by
  unfold f9_passHour_e at hres
  refine v_aload_n (pc2 := 86) C 0 dX9_passHour_85 rfl rfl ?_
  refine vg_X9_sky (pc2 := 89) C lf_X9_19 dX9_passHour_86 rfl ?_
  refine v_iload_n (pc2 := 90) C 1 dX9_passHour_89 rfl rfl ?_
  refine v_cVi (pc2 := 93) C kc_X9_139 (mX4_isNight (xl X) Λ _ _ hh) (wd2 Λ _) rfl (by decide) rfl rfl (Nat.le_of_ble_eq_true rfl) dX9_passHour_90 rfl ?_
  refine v_ifne (pc2 := 123) (pc3 := 96) C dX9_passHour_93 rfl rfl (fun h93 => ?_) (fun h93 => ?_)
  · have hres := (if_neg h93).symm.trans hres
    exact v_lv [0, 1, 2, 3] rfl (bf9_passHour_f C E _ _ _ _ hs  hres)
  · have hres := (if_pos h93).symm.trans hres
    refine v_aload_n (pc2 := 97) C 0 dX9_passHour_96 rfl rfl ?_
    refine v_iload_n (pc2 := 98) C 1 dX9_passHour_97 rfl rfl ?_
    refine v_cVv (pc2 := 101) C kc_X9_170 (mX9_lookFrom (xl X) Λ _ _ hs hh) (wd0 Λ _) rfl (by decide) rfl rfl (Nat.le_of_ble_eq_true rfl) dX9_passHour_98 rfl ?_
    refine v_aload_n (pc2 := 102) C 0 dX9_passHour_101 rfl rfl ?_
    refine vg_X9_field (pc2 := 105) C lf_X9_10 dX9_passHour_102 rfl ?_
    refine v_cVv (pc2 := 108) C kc_X9_210 (mX0_weighAll (xl X) Λ _ (sX9_lookFrom hs)) (wd1 Λ _) rfl (by decide) rfl rfl (Nat.le_of_ble_eq_true rfl) dX9_passHour_105 rfl ?_
    refine v_aload_n (pc2 := 109) C 0 dX9_passHour_108 rfl rfl ?_
    refine vg_X9_strings (pc2 := 112) C lf_X9_26 dX9_passHour_109 rfl ?_
    refine v_aload_n (pc2 := 113) C 0 dX9_passHour_112 rfl rfl ?_
    refine vg_X9_ledger (pc2 := 116) C lf_X9_40 dX9_passHour_113 rfl ?_
    refine v_aload_n (pc2 := 117) C 0 dX9_passHour_116 rfl rfl ?_
    refine vg_X9_field (pc2 := 120) C lf_X9_10 dX9_passHour_117 rfl ?_
    refine v_cVv (pc2 := 123) C kc_X9_293 (mX5_bookInto (xl X) Λ _ (sX0_weighAll (sX9_lookFrom hs))) (wd3 Λ _) rfl (by decide) rfl rfl (Nat.le_of_ble_eq_true rfl) dX9_passHour_120 rfl ?_
    exact v_lv [0, 1, 2, 3] rfl (bf9_passHour_f C E _ _ _ _ (sX5_bookInto (sX0_weighAll (sX9_lookFrom hs)))  hres)
def f9_passHour_d (σ : St) (h : Int32) (z : Int32) (t : Int32) : St :=
  (f9_passHour_e (f1_begin σ h z) h z t)
set_option maxHeartbeats 4000000 in
set_option maxRecDepth 100000 in
theorem bf9_passHour_d {X : CX} {Λ : LY} (C : OK X Λ cX9_passHour 5 RX9 6 141) {res : St} (E : EN X Λ none none res) (σ : St) (h : Int32) (z : Int32) (t : Int32) (hs : Safe σ) (hh : vp_in h 24) (hres : (f9_passHour_d σ h z t) = res) : VV X Λ 5 76 [(0, .ref (adr Λ 0)), (1, .int (h)), (3, .int (z)), (4, .int (t))] [] σ := by
  unfold f9_passHour_d at hres
  refine v_aload_n (pc2 := 77) C 0 dX9_passHour_76 rfl rfl ?_
  refine vg_X9_ledger (pc2 := 80) C lf_X9_40 dX9_passHour_77 rfl ?_
  refine v_iload_n (pc2 := 81) C 1 dX9_passHour_80 rfl rfl ?_
  refine v_iload_n (pc2 := 82) C 2 dX9_passHour_81 rfl rfl ?_
  refine v_cVv (pc2 := 85) C kc_X9_291 (mX1_begin (xl X) Λ _ _ _) (wd5 Λ _) rfl (by decide) rfl rfl (Nat.le_of_ble_eq_true rfl) dX9_passHour_82 rfl ?_
  exact v_lv [0, 1, 2, 3] rfl (bf9_passHour_e C E _ _ _ _ (sX1_begin hs) hh  hres)
def f9_passHour_c (σ : St) (h : Int32) (lf : Int32) (z : Int32) (t : Int32) : St :=
  (if lf = (0 : Int32) then (f9_passHour_d (f0_turnTo σ t t) h z t) else (if z = (2 : Int32) then (f9_passHour_d (f0_turnTo σ t t) h z t) else (f9_passHour_d (f0_turnTo σ t (gI σ 1)) h z t)))
set_option maxHeartbeats 4000000 in
set_option maxRecDepth 100000 in
theorem bf9_passHour_c {X : CX} {Λ : LY} (C : OK X Λ cX9_passHour 5 RX9 6 141) {res : St} (E : EN X Λ none none res) (σ : St) (h : Int32) (lf : Int32) (z : Int32) (t : Int32) (hs : Safe σ) (hh : vp_in h 24) (ht : -12 ≤ t.toInt ∧ t.toInt ≤ 12) (hres : (f9_passHour_c σ h lf z t) = res) : VV X Λ 5 49 [(0, .ref (adr Λ 0)), (1, .int (h)), (2, .int (lf)), (3, .int (z)), (4, .int (t))] [] σ := by
  unfold f9_passHour_c at hres
  refine v_aload_n (pc2 := 50) C 0 dX9_passHour_49 rfl rfl ?_
  refine vg_X9_field (pc2 := 53) C lf_X9_10 dX9_passHour_50 rfl ?_
  refine v_iload (pc2 := 55) C 4 dX9_passHour_53 rfl rfl ?_
  refine v_iload_n (pc2 := 56) C 2 dX9_passHour_55 rfl rfl ?_
  refine v_ifeq (pc2 := 71) (pc3 := 59) C dX9_passHour_56 rfl rfl (fun h56 => ?_) (fun h56 => ?_)
  · have hres := (if_pos h56).symm.trans hres
    refine v_iload (pc2 := 73) C 4 dX9_passHour_71 rfl rfl ?_
    refine v_cVv (pc2 := 76) C kc_X9_288 (mX0_turnTo (xl X) Λ _ _ _ hs ht (by first | exact ht | exact hs.lt)) (wd1 Λ _) rfl (by decide) rfl rfl (Nat.le_of_ble_eq_true rfl) dX9_passHour_73 rfl ?_
    exact v_lv [0, 1, 3, 4] rfl (bf9_passHour_d C E _ _ _ _ (sX0_turnTo ht (by first | exact ht | exact hs.lt) hs) hh  hres)
  · have hres := (if_neg h56).symm.trans hres
    refine v_iload_n (pc2 := 60) C 3 dX9_passHour_59 rfl rfl ?_
    refine v_iconst (pc2 := 61) C dX9_passHour_60 ki_2 rfl ?_
    refine v_icmpeq (pc2 := 71) (pc3 := 64) C dX9_passHour_61 rfl rfl (fun h61 => ?_) (fun h61 => ?_)
    · have hres := (if_pos h61).symm.trans hres
      refine v_iload (pc2 := 73) C 4 dX9_passHour_71 rfl rfl ?_
      refine v_cVv (pc2 := 76) C kc_X9_288 (mX0_turnTo (xl X) Λ _ _ _ hs ht (by first | exact ht | exact hs.lt)) (wd1 Λ _) rfl (by decide) rfl rfl (Nat.le_of_ble_eq_true rfl) dX9_passHour_73 rfl ?_
      exact v_lv [0, 1, 3, 4] rfl (bf9_passHour_d C E _ _ _ _ (sX0_turnTo ht (by first | exact ht | exact hs.lt) hs) hh  hres)
    · have hres := (if_neg h61).symm.trans hres
      refine v_aload_n (pc2 := 65) C 0 dX9_passHour_64 rfl rfl ?_
      refine vg_X9_latestTarget (pc2 := 68) C lf_X9_66 dX9_passHour_65 rfl ?_
      refine v_goto (pc2 := 73) C dX9_passHour_68 rfl ?_
      refine v_cVv (pc2 := 76) C kc_X9_288 (mX0_turnTo (xl X) Λ _ _ _ hs ht (by first | exact ht | exact hs.lt)) (wd1 Λ _) rfl (by decide) rfl rfl (Nat.le_of_ble_eq_true rfl) dX9_passHour_73 rfl ?_
      exact v_lv [0, 1, 3, 4] rfl (bf9_passHour_d C E _ _ _ _ (sX0_turnTo ht (by first | exact ht | exact hs.lt) hs) hh  hres)
def f9_passHour_b (σ : St) (h : Int32) (lf : Int32) (z : Int32) : St :=
  (f9_passHour_c ((f9_targetStep σ h z).2) h lf z ((f9_targetStep σ h z).1))
set_option maxHeartbeats 4000000 in
set_option maxRecDepth 100000 in
theorem bf9_passHour_b {X : CX} {Λ : LY} (C : OK X Λ cX9_passHour 5 RX9 6 141) {res : St} (E : EN X Λ none none res) (σ : St) (h : Int32) (lf : Int32) (z : Int32) (hs : Safe σ) (hh : vp_in h 24) (hres : (f9_passHour_b σ h lf z) = res) : VV X Λ 5 41 [(0, .ref (adr Λ 0)), (1, .int (h)), (2, .int (lf)), (3, .int (z))] [] σ := by
  unfold f9_passHour_b at hres
  refine v_aload_n (pc2 := 42) C 0 dX9_passHour_41 rfl rfl ?_
  refine v_iload_n (pc2 := 43) C 1 dX9_passHour_42 rfl rfl ?_
  refine v_iload_n (pc2 := 44) C 3 dX9_passHour_43 rfl rfl ?_
  refine v_cVi (pc2 := 47) C kc_X9_285 (mX9_targetStep (xl X) Λ _ _ _ hs hh) (wd0 Λ _) rfl (by decide) rfl rfl (Nat.le_of_ble_eq_true rfl) dX9_passHour_44 rfl ?_
  refine v_istore (pc2 := 49) (lv2 := [(4, _), (0, _), (1, _), (2, _), (3, _)]) C dX9_passHour_47 (by decide) rfl rfl ?_
  exact v_lv [1, 2, 3, 4, 0] rfl (bf9_passHour_c C E _ _ _ _ _ (sX9_targetStep hs) hh (ts_rg _ _ _)  hres)
def f9_passHour_a (σ : St) (h : Int32) (lf : Int32) : St :=
  (f9_passHour_b ((f8_stateAt σ h).2) h lf ((f8_stateAt σ h).1))
set_option maxHeartbeats 4000000 in
set_option maxRecDepth 100000 in
theorem bf9_passHour_a {X : CX} {Λ : LY} (C : OK X Λ cX9_passHour 5 RX9 6 141) {res : St} (E : EN X Λ none none res) (σ : St) (h : Int32) (lf : Int32) (hs : Safe σ) (hh : vp_in h 24) (hres : (f9_passHour_a σ h lf) = res) : VV X Λ 5 32 [(0, .ref (adr Λ 0)), (1, .int (h)), (2, .int (lf))] [] σ := by
  unfold f9_passHour_a at hres
  refine v_aload_n (pc2 := 33) C 0 dX9_passHour_32 rfl rfl ?_
  refine vg_X9_weather (pc2 := 36) C lf_X9_33 dX9_passHour_33 rfl ?_
  refine v_iload_n (pc2 := 37) C 1 dX9_passHour_36 rfl rfl ?_
  refine v_cVi (pc2 := 40) C kc_X9_282 (mX8_stateAt (xl X) Λ _ _ hh) (wd4 Λ _) rfl (by decide) rfl rfl (Nat.le_of_ble_eq_true rfl) dX9_passHour_37 rfl ?_
  refine v_istore_n (pc2 := 41) (lv2 := [(3, _), (0, _), (1, _), (2, _)]) C dX9_passHour_40 (by decide) rfl rfl ?_
  exact v_lv [1, 2, 3, 0] rfl (bf9_passHour_b C E _ _ _ _ (sX8_stateAt hs) hh  hres)
def f9_passHour (σ : St) : St :=
  (if (gI σ 8) = (0 : Int32) then (f9_passHour_a σ (gI σ 0) (0 : Int32)) else (if (gI σ 9) = (2 : Int32) then (f9_passHour_a σ (gI σ 0) (0 : Int32)) else (f9_passHour_a σ (gI σ 0) (1 : Int32))))
set_option maxHeartbeats 4000000 in
set_option maxRecDepth 100000 in
theorem bf9_passHour {X : CX} {Λ : LY} (C : OK X Λ cX9_passHour 5 RX9 6 141) {res : St} (E : EN X Λ none none res) (σ : St) (hs : Safe σ) (hres : (f9_passHour σ) = res) : VV X Λ 5 0 [(0, .ref (adr Λ 0))] [] σ := by
  unfold f9_passHour at hres
  refine v_aload_n (pc2 := 1) C 0 dX9_passHour_0 rfl rfl ?_
  refine vg_X9_nextHour (pc2 := 4) C lf_X9_62 dX9_passHour_1 rfl ?_
  refine v_istore_n (pc2 := 5) (lv2 := [(1, _), (0, _)]) C dX9_passHour_4 (by decide) rfl rfl ?_
  refine v_aload_n (pc2 := 6) C 1 dX9_passHour_5 rfl rfl ?_
  refine vg_X9_ledger (pc2 := 9) C lf_X9_40 dX9_passHour_6 rfl ?_
  refine vg_X1_isBegun (pc2 := 12) C lf_X9_241 dX9_passHour_9 rfl ?_
  refine v_ifeq (pc2 := 30) (pc3 := 15) C dX9_passHour_12 rfl rfl (fun h12 => ?_) (fun h12 => ?_)
  · have hres := (if_pos h12).symm.trans hres
    refine v_iconst (pc2 := 31) C dX9_passHour_30 ki_0 rfl ?_
    refine v_istore_n (pc2 := 32) (lv2 := [(2, _), (1, _), (0, _)]) C dX9_passHour_31 (by decide) rfl rfl ?_
    exact v_lv [2, 1, 0] rfl (bf9_passHour_a C E _ _ _ hs (vin hs.nh.1 (by have := hs.nh.2; omega))  hres)
  · have hres := (if_neg h12).symm.trans hres
    refine v_aload_n (pc2 := 16) C 1 dX9_passHour_15 rfl rfl ?_
    refine vg_X9_ledger (pc2 := 19) C lf_X9_40 dX9_passHour_16 rfl ?_
    refine vg_X1_state (pc2 := 22) C lf_X9_234 dX9_passHour_19 rfl ?_
    refine v_iconst (pc2 := 23) C dX9_passHour_22 ki_2 rfl ?_
    refine v_icmpeq (pc2 := 30) (pc3 := 26) C dX9_passHour_23 rfl rfl (fun h23 => ?_) (fun h23 => ?_)
    · have hres := (if_pos h23).symm.trans hres
      refine v_iconst (pc2 := 31) C dX9_passHour_30 ki_0 rfl ?_
      refine v_istore_n (pc2 := 32) (lv2 := [(2, _), (1, _), (0, _)]) C dX9_passHour_31 (by decide) rfl rfl ?_
      exact v_lv [2, 1, 0] rfl (bf9_passHour_a C E _ _ _ hs (vin hs.nh.1 (by have := hs.nh.2; omega))  hres)
    · have hres := (if_neg h23).symm.trans hres
      refine v_iconst (pc2 := 27) C dX9_passHour_26 ki_1 rfl ?_
      refine v_goto (pc2 := 31) C dX9_passHour_27 rfl ?_
      refine v_istore_n (pc2 := 32) (lv2 := [(2, _), (1, _), (0, _)]) C dX9_passHour_31 (by decide) rfl rfl ?_
      exact v_lv [2, 1, 0] rfl (bf9_passHour_a C E _ _ _ hs (vin hs.nh.1 (by have := hs.nh.2; omega))  hres)
theorem mX9_passHour (l : Launch) (Λ : LY) (σ : St) (hs : Safe σ) : CT l Λ yX9_passHour cX9_passHour 5 none 6 141 [.ref (adr Λ 0)] σ none (f9_passHour σ) := by
  refine CT_of (by decide +kernel) (Nat.le_of_ble_eq_true rfl) ?_
  intro X hX C E
  obtain ⟨res, hres⟩ : ∃ r, (f9_passHour σ) = r := ⟨_, rfl⟩
  rw [hres] at E
  exact bf9_passHour C E _  hs hres
theorem nh_rg {h : Int32} (hh : vp_in h 24) : 0 ≤ (h + (1 : Int32) - (h + (1 : Int32)) / (24 : Int32) * (24 : Int32)).toInt ∧ (h + (1 : Int32) - (h + (1 : Int32)) / (24 : Int32) * (24 : Int32)).toInt ≤ 23 := by
  obtain ⟨j, hj, rfl⟩ := vp_in_of hh (by decide)
  have : ∀ j : Nat, j < 24 → 0 ≤ (nI j + (1 : Int32) - (nI j + (1 : Int32)) / (24 : Int32) * (24 : Int32)).toInt ∧ (nI j + (1 : Int32) - (nI j + (1 : Int32)) / (24 : Int32) * (24 : Int32)).toInt ≤ 23 := by decide +kernel
  exact this j hj
theorem sX9_passHour_f {σ : St} {h z t : Int32} (hs : Safe σ) (hh : vp_in h 24) (ht : -12 ≤ t.toInt ∧ t.toInt ≤ 12) : Safe (f9_passHour_f σ h z t) := by
  unfold f9_passHour_f
  split
  · exact sf_I0 (nh_rg hh) (sf_I1 ht (sX0_washAll (sX1_addToSums hs)))
  · exact sf_I0 (nh_rg hh) (sf_I1 ht (sX1_addToSums hs))
theorem sX9_passHour_e {σ : St} {h z t : Int32} (hs : Safe σ) (hh : vp_in h 24) (ht : -12 ≤ t.toInt ∧ t.toInt ≤ 12) : Safe (f9_passHour_e σ h z t) := by
  unfold f9_passHour_e
  split
  · exact sX9_passHour_f (sX5_bookInto (sX0_weighAll (sX9_lookFrom hs))) hh ht
  · exact sX9_passHour_f hs hh ht
theorem sX9_passHour {σ : St} (hs : Safe σ) : Safe (f9_passHour σ) := by
  have hh : vp_in (gI σ 0) 24 := vin hs.nh.1 (by have := hs.nh.2; omega)
  have key : ∀ lf, Safe (f9_passHour_a σ (gI σ 0) lf) := by
    intro lf
    unfold f9_passHour_a f9_passHour_b f9_passHour_c f9_passHour_d
    have h1 : Safe (f9_targetStep (f8_stateAt σ (gI σ 0)).2 (gI σ 0) (f8_stateAt σ (gI σ 0)).1).2 := sX9_targetStep (sX8_stateAt hs)
    have h2 := ts_rg (f8_stateAt σ (gI σ 0)).2 (gI σ 0) (f8_stateAt σ (gI σ 0)).1
    split
    · exact sX9_passHour_e (sX1_begin (sX0_turnTo h2 h2 h1)) hh h2
    · split
      · exact sX9_passHour_e (sX1_begin (sX0_turnTo h2 h2 h1)) hh h2
      · exact sX9_passHour_e (sX1_begin (sX0_turnTo h2 h1.lt h1)) hh h2
  unfold f9_passHour
  repeat' split
  all_goals exact key _
def f9_hour (σ : St) : Int32 × St :=
  ((gI (f9_passHour σ) 9), (f9_passHour σ))
set_option maxHeartbeats 4000000 in
set_option maxRecDepth 100000 in
theorem bf9_hour {X : CX} {Λ : LY} (C : OK X Λ cX9_hour 1 RX9 7 165) {res : Int32 × St} (E : EN X Λ (some .int) (some (.int res.1)) res.2) (σ : St) (hs : Safe σ) (hres : (f9_hour σ) = res) : VV X Λ 1 0 [(0, .ref (adr Λ 0))] [] σ := by
  unfold f9_hour at hres
  refine v_aload_n (pc2 := 1) C 0 dX9_hour_0 rfl rfl ?_
  refine v_cVv (pc2 := 4) C kc_X9_231 (mX9_passHour (xl X) Λ _ hs) (wd0 Λ _) rfl (by decide) rfl rfl (Nat.le_of_ble_eq_true rfl) dX9_hour_1 rfl ?_
  refine v_aload_n (pc2 := 5) C 0 dX9_hour_4 rfl rfl ?_
  refine vg_X9_ledger (pc2 := 8) C lf_X9_40 dX9_hour_5 rfl ?_
  refine vg_X1_state (pc2 := 11) C lf_X9_234 dX9_hour_8 rfl ?_
  exact r_iS C E hres dX9_hour_11
theorem mX9_hour (l : Launch) (Λ : LY) (σ : St) (hs : Safe σ) : CT l Λ yX9_hour cX9_hour 1 (some .int) 7 165 [.ref (adr Λ 0)] σ (some (.int (f9_hour σ).1)) (f9_hour σ).2 := by
  refine CT_of (by decide +kernel) (Nat.le_of_ble_eq_true rfl) ?_
  intro X hX C E
  obtain ⟨res, hres⟩ : ∃ r, (f9_hour σ) = r := ⟨_, rfl⟩
  rw [hres] at E
  exact bf9_hour C E _  hs hres
def f9_hours_L (a1 : Int32) : Nat → St → Int64 → Int32 → Int64 × St
  | 0, σ, _, _ => (0, σ)
  | n + 1, σ, s, k => (if a1 ≤ k then (s, σ) else (f9_hours_L a1 n (f9_passHour σ) (s + (gB (f9_passHour σ) 2 (Int32.toNatClampNeg (5 : Int32)))) (k + (1 : Int32))))
set_option maxHeartbeats 4000000 in
set_option maxRecDepth 100000 in
theorem bf9_hours_L {X : CX} {Λ : LY} (C : OK X Λ cX9_hours 5 RX9 7 165) {res : Int64 × St} (E : EN X Λ (some .long) (some (.long res.1)) res.2) (a1 : Int32)  : ∀ (n : Nat) (σ : St) (s : Int64) (k : Int32), (hs : Safe σ) → (ha : a1.toInt ≤ 48) → (hu : UP 48 k n) → (f9_hours_L a1 n σ s k) = res → VV X Λ 5 23 [(0, .ref (adr Λ 0)), (1, .int (a1)), (2, .long (s)), (4, .int (k))] [] σ := by
  intro n
  induction n with
  | zero => intro σ s k hs ha hu hres; exact absurd hu (fun h => h.z)
  | succ n ih =>
    intro σ s k hs ha hu hres
    rw [f9_hours_L] at hres
    refine v_iload (pc2 := 25) C 3 dX9_hours_23 rfl rfl ?_
    refine v_iload_n (pc2 := 26) C 1 dX9_hours_25 rfl rfl ?_
    refine v_icmpge (pc2 := 51) (pc3 := 29) C dX9_hours_26 rfl rfl (fun h26 => ?_) (fun h26 => ?_)
    · have hres := (if_pos h26).symm.trans hres
      refine v_lload_n (pc2 := 52) C 2 dX9_hours_51 rfl rfl ?_
      exact r_lS C E hres dX9_hours_52
    · have hres := (if_neg h26).symm.trans hres
      refine v_aload_n (pc2 := 30) C 0 dX9_hours_29 rfl rfl ?_
      refine v_cVv (pc2 := 33) C kc_X9_231 (mX9_passHour (xl X) Λ _ hs) (wd0 Λ _) rfl (by decide) rfl rfl (Nat.le_of_ble_eq_true rfl) dX9_hours_30 rfl ?_
      refine v_lload_n (pc2 := 34) C 2 dX9_hours_33 rfl rfl ?_
      refine v_aload_n (pc2 := 35) C 0 dX9_hours_34 rfl rfl ?_
      refine vg_X9_ledger (pc2 := 38) C lf_X9_40 dX9_hours_35 rfl ?_
      refine vg_X1_latest (pc2 := 41) C lf_X9_237 dX9_hours_38 rfl ?_
      refine v_iconst (pc2 := 42) C dX9_hours_41 ki_5 rfl ?_
      refine al20 (pc2 := 43) C (in_lit (by decide +kernel)) dX9_hours_42 rfl ?_
      refine v_ladd (pc2 := 44) C dX9_hours_43 rfl ?_
      refine v_lstore_n (pc2 := 45) (lv2 := [(2, _), (0, _), (1, _), (4, _)]) C dX9_hours_44 (by decide) rfl rfl ?_
      refine v_iinc (pc2 := 48) (lv2 := [(4, _), (2, _), (0, _), (1, _)]) C 3 dX9_hours_45 rfl ki_1 (by decide) rfl rfl ?_
      refine v_goto (pc2 := 23) C dX9_hours_48 rfl ?_
      exact v_lv [2, 3, 1, 0] rfl (ih _ _ _ (sX9_passHour hs) ha (hu.step h26 ha (by decide)) hres)
def f9_hours (σ : St) (a1 : Int32) : Int64 × St :=
  (if (f9_isWithin a1 (1 : Int32) (48 : Int32)) = (0 : Int32) then ((Int32.toInt64 ((f9_answer σ (-1000000001 : Int32)).1)), ((f9_answer σ (-1000000001 : Int32)).2)) else (f9_hours_L a1 49 σ (0 : Int64) (0 : Int32)))
set_option maxHeartbeats 4000000 in
set_option maxRecDepth 100000 in
theorem bf9_hours {X : CX} {Λ : LY} (C : OK X Λ cX9_hours 5 RX9 7 165) {res : Int64 × St} (E : EN X Λ (some .long) (some (.long res.1)) res.2) (σ : St) (a1 : Int32) (hs : Safe σ) (hres : (f9_hours σ a1) = res) : VV X Λ 5 0 [(0, .ref (adr Λ 0)), (1, .int (a1))] [] σ := by
  unfold f9_hours at hres
  refine v_iload_n (pc2 := 1) C 1 dX9_hours_0 rfl rfl ?_
  refine v_iconst (pc2 := 2) C dX9_hours_1 ki_1 rfl ?_
  refine v_bipush (pc2 := 4) C dX9_hours_2 kb_48 rfl ?_
  refine v_cSi (pc2 := 7) C kc_X9_73 (mX9_isWithin (xl X) Λ _ _ _ _) (by decide) rfl rfl (Nat.le_of_ble_eq_true rfl) dX9_hours_4 rfl ?_
  refine v_ifne (pc2 := 18) (pc3 := 10) C dX9_hours_7 rfl rfl (fun h7 => ?_) (fun h7 => ?_)
  · have hres := (if_neg h7).symm.trans hres
    refine v_lconst (pc2 := 19) C dX9_hours_18 kl_0 rfl ?_
    refine v_lstore_n (pc2 := 20) (lv2 := [(2, _), (0, _), (1, _)]) C dX9_hours_19 (by decide) rfl rfl ?_
    refine v_iconst (pc2 := 21) C dX9_hours_20 ki_0 rfl ?_
    refine v_istore (pc2 := 23) (lv2 := [(4, _), (2, _), (0, _), (1, _)]) C dX9_hours_21 (by decide) rfl rfl ?_
    exact v_lv [2, 3, 1, 0] rfl (bf9_hours_L C E _ 49 _ _ _ hs (by have := (wi_t h7).2; rw [lit_48] at this; exact this) UP.start  hres)
  · have hres := (if_pos h7).symm.trans hres
    refine v_aload_n (pc2 := 11) C 0 dX9_hours_10 rfl rfl ?_
    refine v_ldc (pc2 := 13) C lc_X9_80 dX9_hours_11 rfl ?_
    refine v_cVi (pc2 := 16) C kc_X9_81 (mX9_answer (xl X) Λ _ _ an1) (wd0 Λ _) rfl (by decide) rfl rfl (Nat.le_of_ble_eq_true rfl) dX9_hours_13 rfl ?_
    refine v_i2l (pc2 := 17) C dX9_hours_16 rfl ?_
    exact r_lS C E hres dX9_hours_17
theorem mX9_hours (l : Launch) (Λ : LY) (σ : St) (a1 : Int32) (hs : Safe σ) : CT l Λ yX9_hours cX9_hours 5 (some .long) 7 165 [.ref (adr Λ 0), .int (a1)] σ (some (.long (f9_hours σ a1).1)) (f9_hours σ a1).2 := by
  refine CT_of (by decide +kernel) (Nat.le_of_ble_eq_true rfl) ?_
  intro X hX C E
  obtain ⟨res, hres⟩ : ∃ r, (f9_hours σ a1) = r := ⟨_, rfl⟩
  rw [hres] at E
  exact bf9_hours C E _ _  hs hres
def f9_book (σ : St) (a1 : Int32) : Int64 × St :=
  (if (gI σ 8) = (0 : Int32) then ((Int32.toInt64 ((f9_answer σ (-1000000002 : Int32)).1)), ((f9_answer σ (-1000000002 : Int32)).2)) else (if (f9_isWithin a1 (0 : Int32) (5 : Int32)) = (0 : Int32) then (if a1 = (6 : Int32) then ((Int32.toInt64 (gI σ 9)), σ) else (if a1 = (7 : Int32) then ((Int32.toInt64 (gI σ 10)), σ) else ((Int32.toInt64 ((f9_answer σ (-1000000001 : Int32)).1)), ((f9_answer σ (-1000000001 : Int32)).2)))) else ((gB σ 2 (Int32.toNatClampNeg a1)), σ)))
set_option maxHeartbeats 4000000 in
set_option maxRecDepth 100000 in
theorem bf9_book {X : CX} {Λ : LY} (C : OK X Λ cX9_book 2 RX9 1 22) {res : Int64 × St} (E : EN X Λ (some .long) (some (.long res.1)) res.2) (σ : St) (a1 : Int32)  (hres : (f9_book σ a1) = res) : VV X Λ 2 0 [(0, .ref (adr Λ 0)), (1, .int (a1))] [] σ := by
  unfold f9_book at hres
  refine v_aload_n (pc2 := 1) C 0 dX9_book_0 rfl rfl ?_
  refine vg_X9_ledger (pc2 := 4) C lf_X9_40 dX9_book_1 rfl ?_
  refine vg_X1_isBegun (pc2 := 7) C lf_X9_241 dX9_book_4 rfl ?_
  refine v_ifne (pc2 := 18) (pc3 := 10) C dX9_book_7 rfl rfl (fun h7 => ?_) (fun h7 => ?_)
  · have hres := (if_neg h7).symm.trans hres
    refine v_iload_n (pc2 := 19) C 1 dX9_book_18 rfl rfl ?_
    refine v_iconst (pc2 := 20) C dX9_book_19 ki_0 rfl ?_
    refine v_iconst (pc2 := 21) C dX9_book_20 ki_5 rfl ?_
    refine v_cSi (pc2 := 24) C kc_X9_73 (mX9_isWithin (xl X) Λ _ _ _ _) (by decide) rfl rfl (Nat.le_of_ble_eq_true rfl) dX9_book_21 rfl ?_
    refine v_ifeq (pc2 := 37) (pc3 := 27) C dX9_book_24 rfl rfl (fun h24 => ?_) (fun h24 => ?_)
    · have hres := (if_pos h24).symm.trans hres
      refine v_iload_n (pc2 := 38) C 1 dX9_book_37 rfl rfl ?_
      refine v_bipush (pc2 := 40) C dX9_book_38 kb_6 rfl ?_
      refine v_icmpne (pc2 := 52) (pc3 := 43) C dX9_book_40 rfl rfl (fun h40 => ?_) (fun h40 => ?_)
      · have hres := (if_neg h40).symm.trans hres
        refine v_iload_n (pc2 := 53) C 1 dX9_book_52 rfl rfl ?_
        refine v_bipush (pc2 := 55) C dX9_book_53 kb_7 rfl ?_
        refine v_icmpne (pc2 := 67) (pc3 := 58) C dX9_book_55 rfl rfl (fun h55 => ?_) (fun h55 => ?_)
        · have hres := (if_neg h55).symm.trans hres
          refine v_aload_n (pc2 := 68) C 0 dX9_book_67 rfl rfl ?_
          refine v_ldc (pc2 := 70) C lc_X9_80 dX9_book_68 rfl ?_
          refine v_cVi (pc2 := 73) C kc_X9_81 (mX9_answer (xl X) Λ _ _ an1) (wd0 Λ _) rfl (by decide) rfl rfl (Nat.le_of_ble_eq_true rfl) dX9_book_70 rfl ?_
          refine v_i2l (pc2 := 74) C dX9_book_73 rfl ?_
          exact r_lS C E hres dX9_book_74
        · have hres := (if_pos h55).symm.trans hres
          refine v_aload_n (pc2 := 59) C 0 dX9_book_58 rfl rfl ?_
          refine vg_X9_ledger (pc2 := 62) C lf_X9_40 dX9_book_59 rfl ?_
          refine vg_X1_whichHour (pc2 := 65) C lf_X9_245 dX9_book_62 rfl ?_
          refine v_i2l (pc2 := 66) C dX9_book_65 rfl ?_
          exact r_lS C E hres dX9_book_66
      · have hres := (if_pos h40).symm.trans hres
        refine v_aload_n (pc2 := 44) C 0 dX9_book_43 rfl rfl ?_
        refine vg_X9_ledger (pc2 := 47) C lf_X9_40 dX9_book_44 rfl ?_
        refine vg_X1_state (pc2 := 50) C lf_X9_234 dX9_book_47 rfl ?_
        refine v_i2l (pc2 := 51) C dX9_book_50 rfl ?_
        exact r_lS C E hres dX9_book_51
    · have hres := (if_neg h24).symm.trans hres
      refine v_aload_n (pc2 := 28) C 0 dX9_book_27 rfl rfl ?_
      refine vg_X9_ledger (pc2 := 31) C lf_X9_40 dX9_book_28 rfl ?_
      refine vg_X1_latest (pc2 := 34) C lf_X9_237 dX9_book_31 rfl ?_
      refine v_iload_n (pc2 := 35) C 1 dX9_book_34 rfl rfl ?_
      refine al20 (pc2 := 36) C (wi5_in h24) dX9_book_35 rfl ?_
      exact r_lS C E hres dX9_book_36
  · have hres := (if_pos h7).symm.trans hres
    refine v_aload_n (pc2 := 11) C 0 dX9_book_10 rfl rfl ?_
    refine v_ldc (pc2 := 13) C lc_X9_103 dX9_book_11 rfl ?_
    refine v_cVi (pc2 := 16) C kc_X9_81 (mX9_answer (xl X) Λ _ _ an2) (wd0 Λ _) rfl (by decide) rfl rfl (Nat.le_of_ble_eq_true rfl) dX9_book_13 rfl ?_
    refine v_i2l (pc2 := 17) C dX9_book_16 rfl ?_
    exact r_lS C E hres dX9_book_17
theorem mX9_book (l : Launch) (Λ : LY) (σ : St) (a1 : Int32)  : CT l Λ yX9_book cX9_book 2 (some .long) 1 22 [.ref (adr Λ 0), .int (a1)] σ (some (.long (f9_book σ a1).1)) (f9_book σ a1).2 := by
  refine CT_of (by decide +kernel) (Nat.le_of_ble_eq_true rfl) ?_
  intro X hX C E
  obtain ⟨res, hres⟩ : ∃ r, (f9_book σ a1) = r := ⟨_, rfl⟩
  rw [hres] at E
  exact bf9_book C E _ _   hres
def f9_all (σ : St) (a1 : Int32) : Int64 × St :=
  (if (f9_isWithin a1 (0 : Int32) (5 : Int32)) = (0 : Int32) then ((Int32.toInt64 ((f9_answer σ (-1000000001 : Int32)).1)), ((f9_answer σ (-1000000001 : Int32)).2)) else ((gB σ 3 (Int32.toNatClampNeg a1)), σ))
set_option maxHeartbeats 4000000 in
set_option maxRecDepth 100000 in
theorem bf9_all {X : CX} {Λ : LY} (C : OK X Λ cX9_all 2 RX9 1 22) {res : Int64 × St} (E : EN X Λ (some .long) (some (.long res.1)) res.2) (σ : St) (a1 : Int32)  (hres : (f9_all σ a1) = res) : VV X Λ 2 0 [(0, .ref (adr Λ 0)), (1, .int (a1))] [] σ := by
  unfold f9_all at hres
  refine v_iload_n (pc2 := 1) C 1 dX9_all_0 rfl rfl ?_
  refine v_iconst (pc2 := 2) C dX9_all_1 ki_0 rfl ?_
  refine v_iconst (pc2 := 3) C dX9_all_2 ki_5 rfl ?_
  refine v_cSi (pc2 := 6) C kc_X9_73 (mX9_isWithin (xl X) Λ _ _ _ _) (by decide) rfl rfl (Nat.le_of_ble_eq_true rfl) dX9_all_3 rfl ?_
  refine v_ifne (pc2 := 17) (pc3 := 9) C dX9_all_6 rfl rfl (fun h6 => ?_) (fun h6 => ?_)
  · have hres := (if_neg h6).symm.trans hres
    refine v_aload_n (pc2 := 18) C 0 dX9_all_17 rfl rfl ?_
    refine vg_X9_ledger (pc2 := 21) C lf_X9_40 dX9_all_18 rfl ?_
    refine vg_X1_sums (pc2 := 24) C lf_X9_248 dX9_all_21 rfl ?_
    refine v_iload_n (pc2 := 25) C 1 dX9_all_24 rfl rfl ?_
    refine al21 (pc2 := 26) C (wi5_in h6) dX9_all_25 rfl ?_
    exact r_lS C E hres dX9_all_26
  · have hres := (if_pos h6).symm.trans hres
    refine v_aload_n (pc2 := 10) C 0 dX9_all_9 rfl rfl ?_
    refine v_ldc (pc2 := 12) C lc_X9_80 dX9_all_10 rfl ?_
    refine v_cVi (pc2 := 15) C kc_X9_81 (mX9_answer (xl X) Λ _ _ an1) (wd0 Λ _) rfl (by decide) rfl rfl (Nat.le_of_ble_eq_true rfl) dX9_all_12 rfl ?_
    refine v_i2l (pc2 := 16) C dX9_all_15 rfl ?_
    exact r_lS C E hres dX9_all_16
theorem mX9_all (l : Launch) (Λ : LY) (σ : St) (a1 : Int32)  : CT l Λ yX9_all cX9_all 2 (some .long) 1 22 [.ref (adr Λ 0), .int (a1)] σ (some (.long (f9_all σ a1).1)) (f9_all σ a1).2 := by
  refine CT_of (by decide +kernel) (Nat.le_of_ble_eq_true rfl) ?_
  intro X hX C E
  obtain ⟨res, hres⟩ : ∃ r, (f9_all σ a1) = r := ⟨_, rfl⟩
  rw [hres] at E
  exact bf9_all C E _ _   hres
def f9_next (σ : St) : Int32 :=
  (gI σ 0)
set_option maxHeartbeats 4000000 in
set_option maxRecDepth 100000 in
theorem bf9_next {X : CX} {Λ : LY} (C : OK X Λ cX9_next 1 RX9 0 0) {σ : St} {res : Int32} (E : EN X Λ (some .int) (some (.int res)) σ)  (hres : (f9_next σ) = res) : VV X Λ 1 0 [(0, .ref (adr Λ 0))] [] σ := by
  unfold f9_next at hres
  refine v_aload_n (pc2 := 1) C 0 dX9_next_0 rfl rfl ?_
  refine vg_X9_nextHour (pc2 := 4) C lf_X9_62 dX9_next_1 rfl ?_
  exact r_iP C E hres dX9_next_4
theorem mX9_next (l : Launch) (Λ : LY) (σ : St)  : CT l Λ yX9_next cX9_next 1 (some .int) 0 0 [.ref (adr Λ 0)] σ (some (.int (f9_next σ))) σ := by
  refine CT_of (by decide +kernel) (Nat.le_of_ble_eq_true rfl) ?_
  intro X hX C E
  obtain ⟨res, hres⟩ : ∃ r, (f9_next σ) = r := ⟨_, rfl⟩
  rw [hres] at E
  exact bf9_next C E    hres
def f9_plan (σ : St) (a1 : Int32) (a2 : Int32) : Int32 × St :=
  (if (f9_isWashPlan a1 a2) = (0 : Int32) then (((f9_answer σ (-1000000001 : Int32)).1), ((f9_answer σ (-1000000001 : Int32)).2)) else ((gI (f7_choose σ a1 a2) 11), (f7_choose σ a1 a2)))
set_option maxHeartbeats 4000000 in
set_option maxRecDepth 100000 in
theorem bf9_plan {X : CX} {Λ : LY} (C : OK X Λ cX9_plan 3 RX9 2 55) {res : Int32 × St} (E : EN X Λ (some .int) (some (.int res.1)) res.2) (σ : St) (a1 : Int32) (a2 : Int32) (hs : Safe σ) (hres : (f9_plan σ a1 a2) = res) : VV X Λ 3 0 [(0, .ref (adr Λ 0)), (1, .int (a1)), (2, .int (a2))] [] σ := by
  unfold f9_plan at hres
  refine v_iload_n (pc2 := 1) C 1 dX9_plan_0 rfl rfl ?_
  refine v_iload_n (pc2 := 2) C 2 dX9_plan_1 rfl rfl ?_
  refine v_cSi (pc2 := 5) C kc_X9_251 (mX9_isWashPlan (xl X) Λ _ _ _) (by decide) rfl rfl (Nat.le_of_ble_eq_true rfl) dX9_plan_2 rfl ?_
  refine v_ifne (pc2 := 15) (pc3 := 8) C dX9_plan_5 rfl rfl (fun h5 => ?_) (fun h5 => ?_)
  · have hres := (if_neg h5).symm.trans hres
    refine v_aload_n (pc2 := 16) C 0 dX9_plan_15 rfl rfl ?_
    refine vg_X9_washing (pc2 := 19) C lf_X9_47 dX9_plan_16 rfl ?_
    refine v_aload_n (pc2 := 20) C 0 dX9_plan_19 rfl rfl ?_
    refine vg_X9_field (pc2 := 23) C lf_X9_10 dX9_plan_20 rfl ?_
    refine v_iload_n (pc2 := 24) C 1 dX9_plan_23 rfl rfl ?_
    refine v_iload_n (pc2 := 25) C 2 dX9_plan_24 rfl rfl ?_
    refine v_cVv (pc2 := 28) C kc_X9_255 (mX7_choose (xl X) Λ _ _ _ hs) (wd6 Λ _) rfl (by decide) rfl rfl (Nat.le_of_ble_eq_true rfl) dX9_plan_25 rfl ?_
    refine v_aload_n (pc2 := 29) C 0 dX9_plan_28 rfl rfl ?_
    refine vg_X9_washing (pc2 := 32) C lf_X9_47 dX9_plan_29 rfl ?_
    refine vg_X7_bestSet (pc2 := 35) C lf_X9_259 dX9_plan_32 rfl ?_
    exact r_iS C E hres dX9_plan_35
  · have hres := (if_pos h5).symm.trans hres
    refine v_aload_n (pc2 := 9) C 0 dX9_plan_8 rfl rfl ?_
    refine v_ldc (pc2 := 11) C lc_X9_80 dX9_plan_9 rfl ?_
    refine v_cVi (pc2 := 14) C kc_X9_81 (mX9_answer (xl X) Λ _ _ an1) (wd0 Λ _) rfl (by decide) rfl rfl (Nat.le_of_ble_eq_true rfl) dX9_plan_11 rfl ?_
    exact r_iS C E hres dX9_plan_14
theorem mX9_plan (l : Launch) (Λ : LY) (σ : St) (a1 : Int32) (a2 : Int32) (hs : Safe σ) : CT l Λ yX9_plan cX9_plan 3 (some .int) 2 55 [.ref (adr Λ 0), .int (a1), .int (a2)] σ (some (.int (f9_plan σ a1 a2).1)) (f9_plan σ a1 a2).2 := by
  refine CT_of (by decide +kernel) (Nat.le_of_ble_eq_true rfl) ?_
  intro X hX C E
  obtain ⟨res, hres⟩ : ∃ r, (f9_plan σ a1 a2) = r := ⟨_, rfl⟩
  rw [hres] at E
  exact bf9_plan C E _ _ _  hs hres
def f9_worth (σ : St) (a1 : Int32) (a2 : Int32) : Int64 × St :=
  (if (f9_isWashPlan a1 a2) = (0 : Int32) then ((Int32.toInt64 ((f9_answer σ (-1000000001 : Int32)).1)), ((f9_answer σ (-1000000001 : Int32)).2)) else ((gJ (f7_choose σ a1 a2) 0), (f7_choose σ a1 a2)))
set_option maxHeartbeats 4000000 in
set_option maxRecDepth 100000 in
theorem bf9_worth {X : CX} {Λ : LY} (C : OK X Λ cX9_worth 3 RX9 2 55) {res : Int64 × St} (E : EN X Λ (some .long) (some (.long res.1)) res.2) (σ : St) (a1 : Int32) (a2 : Int32) (hs : Safe σ) (hres : (f9_worth σ a1 a2) = res) : VV X Λ 3 0 [(0, .ref (adr Λ 0)), (1, .int (a1)), (2, .int (a2))] [] σ := by
  unfold f9_worth at hres
  refine v_iload_n (pc2 := 1) C 1 dX9_worth_0 rfl rfl ?_
  refine v_iload_n (pc2 := 2) C 2 dX9_worth_1 rfl rfl ?_
  refine v_cSi (pc2 := 5) C kc_X9_251 (mX9_isWashPlan (xl X) Λ _ _ _) (by decide) rfl rfl (Nat.le_of_ble_eq_true rfl) dX9_worth_2 rfl ?_
  refine v_ifne (pc2 := 16) (pc3 := 8) C dX9_worth_5 rfl rfl (fun h5 => ?_) (fun h5 => ?_)
  · have hres := (if_neg h5).symm.trans hres
    refine v_aload_n (pc2 := 17) C 0 dX9_worth_16 rfl rfl ?_
    refine vg_X9_washing (pc2 := 20) C lf_X9_47 dX9_worth_17 rfl ?_
    refine v_aload_n (pc2 := 21) C 0 dX9_worth_20 rfl rfl ?_
    refine vg_X9_field (pc2 := 24) C lf_X9_10 dX9_worth_21 rfl ?_
    refine v_iload_n (pc2 := 25) C 1 dX9_worth_24 rfl rfl ?_
    refine v_iload_n (pc2 := 26) C 2 dX9_worth_25 rfl rfl ?_
    refine v_cVv (pc2 := 29) C kc_X9_255 (mX7_choose (xl X) Λ _ _ _ hs) (wd6 Λ _) rfl (by decide) rfl rfl (Nat.le_of_ble_eq_true rfl) dX9_worth_26 rfl ?_
    refine v_aload_n (pc2 := 30) C 0 dX9_worth_29 rfl rfl ?_
    refine vg_X9_washing (pc2 := 33) C lf_X9_47 dX9_worth_30 rfl ?_
    refine vg_X7_bestValue (pc2 := 36) C lf_X9_262 dX9_worth_33 rfl ?_
    exact r_lS C E hres dX9_worth_36
  · have hres := (if_pos h5).symm.trans hres
    refine v_aload_n (pc2 := 9) C 0 dX9_worth_8 rfl rfl ?_
    refine v_ldc (pc2 := 11) C lc_X9_80 dX9_worth_9 rfl ?_
    refine v_cVi (pc2 := 14) C kc_X9_81 (mX9_answer (xl X) Λ _ _ an1) (wd0 Λ _) rfl (by decide) rfl rfl (Nat.le_of_ble_eq_true rfl) dX9_worth_11 rfl ?_
    refine v_i2l (pc2 := 15) C dX9_worth_14 rfl ?_
    exact r_lS C E hres dX9_worth_15
theorem mX9_worth (l : Launch) (Λ : LY) (σ : St) (a1 : Int32) (a2 : Int32) (hs : Safe σ) : CT l Λ yX9_worth cX9_worth 3 (some .long) 2 55 [.ref (adr Λ 0), .int (a1), .int (a2)] σ (some (.long (f9_worth σ a1 a2).1)) (f9_worth σ a1 a2).2 := by
  refine CT_of (by decide +kernel) (Nat.le_of_ble_eq_true rfl) ?_
  intro X hX C E
  obtain ⟨res, hres⟩ : ∃ r, (f9_worth σ a1 a2) = r := ⟨_, rfl⟩
  rw [hres] at E
  exact bf9_worth C E _ _ _  hs hres
def f9_wash (σ : St) (a1 : Int32) : Int32 × St :=
  (if a1 < (0 : Int32) then (((f9_answer σ (-1000000001 : Int32)).1), ((f9_answer σ (-1000000001 : Int32)).2)) else (if (a1 >>> ((gI σ 2) &&& 31)) = (0 : Int32) then (((f0_washRows σ a1).1), ((f0_washRows σ a1).2)) else (((f9_answer σ (-1000000001 : Int32)).1), ((f9_answer σ (-1000000001 : Int32)).2))))
set_option maxHeartbeats 4000000 in
set_option maxRecDepth 100000 in
theorem bf9_wash {X : CX} {Λ : LY} (C : OK X Λ cX9_wash 2 RX9 2 44) {res : Int32 × St} (E : EN X Λ (some .int) (some (.int res.1)) res.2) (σ : St) (a1 : Int32) (hs : Safe σ) (hres : (f9_wash σ a1) = res) : VV X Λ 2 0 [(0, .ref (adr Λ 0)), (1, .int (a1))] [] σ := by
  unfold f9_wash at hres
  refine v_iload_n (pc2 := 1) C 1 dX9_wash_0 rfl rfl ?_
  refine v_iflt (pc2 := 16) (pc3 := 4) C dX9_wash_1 rfl rfl (fun h1 => ?_) (fun h1 => ?_)
  · have hres := (if_pos h1).symm.trans hres
    refine v_aload_n (pc2 := 17) C 0 dX9_wash_16 rfl rfl ?_
    refine v_ldc (pc2 := 19) C lc_X9_80 dX9_wash_17 rfl ?_
    refine v_cVi (pc2 := 22) C kc_X9_81 (mX9_answer (xl X) Λ _ _ an1) (wd0 Λ _) rfl (by decide) rfl rfl (Nat.le_of_ble_eq_true rfl) dX9_wash_19 rfl ?_
    exact r_iS C E hres dX9_wash_22
  · have hres := (if_neg h1).symm.trans hres
    refine v_iload_n (pc2 := 5) C 1 dX9_wash_4 rfl rfl ?_
    refine v_aload_n (pc2 := 6) C 0 dX9_wash_5 rfl rfl ?_
    refine vg_X9_field (pc2 := 9) C lf_X9_10 dX9_wash_6 rfl ?_
    refine vg_X0_count (pc2 := 12) C lf_X9_89 dX9_wash_9 rfl ?_
    refine v_ishr (pc2 := 13) C dX9_wash_12 rfl ?_
    refine v_ifeq (pc2 := 23) (pc3 := 16) C dX9_wash_13 rfl rfl (fun h13 => ?_) (fun h13 => ?_)
    · have hres := (if_pos h13).symm.trans hres
      refine v_aload_n (pc2 := 24) C 0 dX9_wash_23 rfl rfl ?_
      refine vg_X9_field (pc2 := 27) C lf_X9_10 dX9_wash_24 rfl ?_
      refine v_iload_n (pc2 := 28) C 1 dX9_wash_27 rfl rfl ?_
      refine v_cVi (pc2 := 31) C kc_X9_266 (mX0_washRows (xl X) Λ _ _ hs) (wd1 Λ _) rfl (by decide) rfl rfl (Nat.le_of_ble_eq_true rfl) dX9_wash_28 rfl ?_
      exact r_iS C E hres dX9_wash_31
    · have hres := (if_neg h13).symm.trans hres
      refine v_aload_n (pc2 := 17) C 0 dX9_wash_16 rfl rfl ?_
      refine v_ldc (pc2 := 19) C lc_X9_80 dX9_wash_17 rfl ?_
      refine v_cVi (pc2 := 22) C kc_X9_81 (mX9_answer (xl X) Λ _ _ an1) (wd0 Λ _) rfl (by decide) rfl rfl (Nat.le_of_ble_eq_true rfl) dX9_wash_19 rfl ?_
      exact r_iS C E hres dX9_wash_22
theorem mX9_wash (l : Launch) (Λ : LY) (σ : St) (a1 : Int32) (hs : Safe σ) : CT l Λ yX9_wash cX9_wash 2 (some .int) 2 44 [.ref (adr Λ 0), .int (a1)] σ (some (.int (f9_wash σ a1).1)) (f9_wash σ a1).2 := by
  refine CT_of (by decide +kernel) (Nat.le_of_ble_eq_true rfl) ?_
  intro X hX C E
  obtain ⟨res, hres⟩ : ∃ r, (f9_wash σ a1) = r := ⟨_, rfl⟩
  rw [hres] at E
  exact bf9_wash C E _ _  hs hres
def f9_storm (σ : St) (a1 : Int32) : Int32 × St :=
  (if (f9_isWithin a1 (0 : Int32) (1000 : Int32)) = (0 : Int32) then (((f9_answer σ (-1000000001 : Int32)).1), ((f9_answer σ (-1000000001 : Int32)).2)) else (((f0_addDust σ a1).1), ((f0_addDust σ a1).2)))
set_option maxHeartbeats 4000000 in
set_option maxRecDepth 100000 in
theorem bf9_storm {X : CX} {Λ : LY} (C : OK X Λ cX9_storm 2 RX9 2 46) {res : Int32 × St} (E : EN X Λ (some .int) (some (.int res.1)) res.2) (σ : St) (a1 : Int32) (hs : Safe σ) (hres : (f9_storm σ a1) = res) : VV X Λ 2 0 [(0, .ref (adr Λ 0)), (1, .int (a1))] [] σ := by
  unfold f9_storm at hres
  refine v_iload_n (pc2 := 1) C 1 dX9_storm_0 rfl rfl ?_
  refine v_iconst (pc2 := 2) C dX9_storm_1 ki_0 rfl ?_
  refine v_sipush (pc2 := 5) C dX9_storm_2 ks_1000 rfl ?_
  refine v_cSi (pc2 := 8) C kc_X9_73 (mX9_isWithin (xl X) Λ _ _ _ _) (by decide) rfl rfl (Nat.le_of_ble_eq_true rfl) dX9_storm_5 rfl ?_
  refine v_ifne (pc2 := 18) (pc3 := 11) C dX9_storm_8 rfl rfl (fun h8 => ?_) (fun h8 => ?_)
  · have hres := (if_neg h8).symm.trans hres
    refine v_aload_n (pc2 := 19) C 0 dX9_storm_18 rfl rfl ?_
    refine vg_X9_field (pc2 := 22) C lf_X9_10 dX9_storm_19 rfl ?_
    refine v_iload_n (pc2 := 23) C 1 dX9_storm_22 rfl rfl ?_
    refine v_cVi (pc2 := 26) C kc_X9_269 (mX0_addDust (xl X) Λ _ _ hs) (wd1 Λ _) rfl (by decide) rfl rfl (Nat.le_of_ble_eq_true rfl) dX9_storm_23 rfl ?_
    exact r_iS C E hres dX9_storm_26
  · have hres := (if_pos h8).symm.trans hres
    refine v_aload_n (pc2 := 12) C 0 dX9_storm_11 rfl rfl ?_
    refine v_ldc (pc2 := 14) C lc_X9_80 dX9_storm_12 rfl ?_
    refine v_cVi (pc2 := 17) C kc_X9_81 (mX9_answer (xl X) Λ _ _ an1) (wd0 Λ _) rfl (by decide) rfl rfl (Nat.le_of_ble_eq_true rfl) dX9_storm_14 rfl ?_
    exact r_iS C E hres dX9_storm_17
theorem mX9_storm (l : Launch) (Λ : LY) (σ : St) (a1 : Int32) (hs : Safe σ) : CT l Λ yX9_storm cX9_storm 2 (some .int) 2 46 [.ref (adr Λ 0), .int (a1)] σ (some (.int (f9_storm σ a1).1)) (f9_storm σ a1).2 := by
  refine CT_of (by decide +kernel) (Nat.le_of_ble_eq_true rfl) ?_
  intro X hX C E
  obtain ⟨res, hres⟩ : ∃ r, (f9_storm σ a1) = r := ⟨_, rfl⟩
  rw [hres] at E
  exact bf9_storm C E _ _  hs hres
def f9_tell (σ : St) (a1 : Int32) : Int32 × St :=
  (if (gI σ 12) < (72 : Int32) then ((gI (f6_append σ a1) 12), (f6_append σ a1)) else (((f9_answer σ (-1000000004 : Int32)).1), ((f9_answer σ (-1000000004 : Int32)).2)))
set_option maxHeartbeats 4000000 in
set_option maxRecDepth 100000 in
theorem bf9_tell {X : CX} {Λ : LY} (C : OK X Λ cX9_tell 2 RX9 1 21) {res : Int32 × St} (E : EN X Λ (some .int) (some (.int res.1)) res.2) (σ : St) (a1 : Int32) (hs : Safe σ) (hres : (f9_tell σ a1) = res) : VV X Λ 2 0 [(0, .ref (adr Λ 0)), (1, .int (a1))] [] σ := by
  unfold f9_tell at hres
  refine v_aload_n (pc2 := 1) C 0 dX9_tell_0 rfl rfl ?_
  refine vg_X9_tape (pc2 := 4) C lf_X9_54 dX9_tell_1 rfl ?_
  refine vg_X6_size (pc2 := 7) C lf_X9_142 dX9_tell_4 rfl ?_
  refine v_bipush (pc2 := 9) C dX9_tell_7 kb_72 rfl ?_
  refine v_icmplt (pc2 := 19) (pc3 := 12) C dX9_tell_9 rfl rfl (fun h9 => ?_) (fun h9 => ?_)
  · have hres := (if_pos h9).symm.trans hres
    refine v_aload_n (pc2 := 20) C 0 dX9_tell_19 rfl rfl ?_
    refine vg_X9_tape (pc2 := 23) C lf_X9_54 dX9_tell_20 rfl ?_
    refine v_iload_n (pc2 := 24) C 1 dX9_tell_23 rfl rfl ?_
    refine v_cVv (pc2 := 27) C kc_X9_272 (mX6_append (xl X) Λ _ _ hs) (wd7 Λ _) rfl (by decide) rfl rfl (Nat.le_of_ble_eq_true rfl) dX9_tell_24 rfl ?_
    refine v_aload_n (pc2 := 28) C 0 dX9_tell_27 rfl rfl ?_
    refine vg_X9_tape (pc2 := 31) C lf_X9_54 dX9_tell_28 rfl ?_
    refine vg_X6_size (pc2 := 34) C lf_X9_142 dX9_tell_31 rfl ?_
    exact r_iS C E hres dX9_tell_34
  · have hres := (if_neg h9).symm.trans hres
    refine v_aload_n (pc2 := 13) C 0 dX9_tell_12 rfl rfl ?_
    refine v_ldc (pc2 := 15) C lc_X9_92 dX9_tell_13 rfl ?_
    refine v_cVi (pc2 := 18) C kc_X9_81 (mX9_answer (xl X) Λ _ _ an4) (wd0 Λ _) rfl (by decide) rfl rfl (Nat.le_of_ble_eq_true rfl) dX9_tell_15 rfl ?_
    exact r_iS C E hres dX9_tell_18
theorem mX9_tell (l : Launch) (Λ : LY) (σ : St) (a1 : Int32) (hs : Safe σ) : CT l Λ yX9_tell cX9_tell 2 (some .int) 1 21 [.ref (adr Λ 0), .int (a1)] σ (some (.int (f9_tell σ a1).1)) (f9_tell σ a1).2 := by
  refine CT_of (by decide +kernel) (Nat.le_of_ble_eq_true rfl) ?_
  intro X hX C E
  obtain ⟨res, hres⟩ : ∃ r, (f9_tell σ a1) = r := ⟨_, rfl⟩
  rw [hres] at E
  exact bf9_tell C E _ _  hs hres
def f9_check_L (to : Int32) : Nat → St → Int32 → Int32 × St
  | 0, σ, _ => (0, σ)
  | n + 1, σ, j => (if (6 : Int32) ≤ j then (if to ≤ (6 : Int32) then ((0 : Int32), σ) else ((99 : Int32), σ)) else (if to ≤ j then (((1 : Int32) + j), σ) else (if (Int32.toInt64 (gA σ 8 (Int32.toNatClampNeg j))) = (gB σ 2 (Int32.toNatClampNeg j)) then (f9_check_L to n σ (j + (1 : Int32))) else (((1 : Int32) + j), σ))))
set_option maxHeartbeats 4000000 in
set_option maxRecDepth 100000 in
theorem bf9_check_L {X : CX} {Λ : LY} (C : OK X Λ cX9_check 3 RX9 1 21) {res : Int32 × St} (E : EN X Λ (some .int) (some (.int res.1)) res.2) (to : Int32)  : ∀ (n : Nat) (σ : St) (j : Int32), (hu : UP 6 j n) → (f9_check_L to n σ j) = res → VV X Λ 3 34 [(0, .ref (adr Λ 0)), (1, .int (to)), (2, .int (j))] [] σ := by
  intro n
  induction n with
  | zero => intro σ j hu hres; exact absurd hu (fun h => h.z)
  | succ n ih =>
    intro σ j hu hres
    rw [f9_check_L] at hres
    refine v_iload_n (pc2 := 35) C 2 dX9_check_34 rfl rfl ?_
    refine v_bipush (pc2 := 37) C dX9_check_35 kb_6 rfl ?_
    refine v_icmpge (pc2 := 78) (pc3 := 40) C dX9_check_37 rfl rfl (fun h37 => ?_) (fun h37 => ?_)
    · have hres := (if_pos h37).symm.trans hres
      refine v_iload_n (pc2 := 79) C 1 dX9_check_78 rfl rfl ?_
      refine v_bipush (pc2 := 81) C dX9_check_79 kb_6 rfl ?_
      refine v_icmple (pc2 := 89) (pc3 := 84) C dX9_check_81 rfl rfl (fun h81 => ?_) (fun h81 => ?_)
      · have hres := (if_pos h81).symm.trans hres
        refine v_iconst (pc2 := 90) C dX9_check_89 ki_0 rfl ?_
        exact r_iS C E hres dX9_check_90
      · have hres := (if_neg h81).symm.trans hres
        refine v_bipush (pc2 := 86) C dX9_check_84 kb_99 rfl ?_
        refine v_goto (pc2 := 90) C dX9_check_86 rfl ?_
        exact r_iS C E hres dX9_check_90
    · have hres := (if_neg h37).symm.trans hres
      refine v_iload_n (pc2 := 41) C 2 dX9_check_40 rfl rfl ?_
      refine v_iload_n (pc2 := 42) C 1 dX9_check_41 rfl rfl ?_
      refine v_icmpge (pc2 := 68) (pc3 := 45) C dX9_check_42 rfl rfl (fun h42 => ?_) (fun h42 => ?_)
      · have hres := (if_pos h42).symm.trans hres
        refine v_iconst (pc2 := 69) C dX9_check_68 ki_1 rfl ?_
        refine v_iload_n (pc2 := 70) C 2 dX9_check_69 rfl rfl ?_
        refine v_iadd (pc2 := 71) C dX9_check_70 rfl ?_
        exact r_iS C E hres dX9_check_71
      · have hres := (if_neg h42).symm.trans hres
        refine v_aload_n (pc2 := 46) C 0 dX9_check_45 rfl rfl ?_
        refine vg_X9_tape (pc2 := 49) C lf_X9_54 dX9_check_46 rfl ?_
        refine vg_X6_numbers (pc2 := 52) C lf_X9_148 dX9_check_49 rfl ?_
        refine v_iload_n (pc2 := 53) C 2 dX9_check_52 rfl rfl ?_
        refine al22 (pc2 := 54) C (in72 (hu.in h37 (by rw [lit_6]; decide))) dX9_check_53 rfl ?_
        refine v_i2l (pc2 := 55) C dX9_check_54 rfl ?_
        refine v_aload_n (pc2 := 56) C 0 dX9_check_55 rfl rfl ?_
        refine vg_X9_ledger (pc2 := 59) C lf_X9_40 dX9_check_56 rfl ?_
        refine vg_X1_latest (pc2 := 62) C lf_X9_237 dX9_check_59 rfl ?_
        refine v_iload_n (pc2 := 63) C 2 dX9_check_62 rfl rfl ?_
        refine al20 (pc2 := 64) C (hu.in h37 (by rw [lit_6]; decide)) dX9_check_63 rfl ?_
        refine v_lceq (pc2 := 72) (pc3 := 68) C dX9_check_64 dX9_check_65 rfl rfl (fun h64 => ?_) (fun h64 => ?_)
        · have hres := (if_pos h64).symm.trans hres
          refine v_iinc (pc2 := 75) (lv2 := [(2, _), (0, _), (1, _)]) C 2 dX9_check_72 rfl ki_1 (by decide) rfl rfl ?_
          refine v_goto (pc2 := 34) C dX9_check_75 rfl ?_
          exact v_lv [1, 2, 0] rfl (ih _ _ (hu.step h37 (by rw [lit_6]; decide) (by decide)) hres)
        · have hres := (if_neg h64).symm.trans hres
          refine v_iconst (pc2 := 69) C dX9_check_68 ki_1 rfl ?_
          refine v_iload_n (pc2 := 70) C 2 dX9_check_69 rfl rfl ?_
          refine v_iadd (pc2 := 71) C dX9_check_70 rfl ?_
          exact r_iS C E hres dX9_check_71
def f9_check (σ : St) : Int32 × St :=
  (if (gI (f6_clear σ) 8) = (0 : Int32) then (((f9_answer (f6_clear σ) (-1000000002 : Int32)).1), ((f9_answer (f6_clear σ) (-1000000002 : Int32)).2)) else (f9_check_L (gI σ 12) 7 (f6_clear σ) (0 : Int32)))
set_option maxHeartbeats 4000000 in
set_option maxRecDepth 100000 in
theorem bf9_check {X : CX} {Λ : LY} (C : OK X Λ cX9_check 3 RX9 1 21) {res : Int32 × St} (E : EN X Λ (some .int) (some (.int res.1)) res.2) (σ : St)  (hres : (f9_check σ) = res) : VV X Λ 3 0 [(0, .ref (adr Λ 0))] [] σ := by
  unfold f9_check at hres
  refine v_aload_n (pc2 := 1) C 0 dX9_check_0 rfl rfl ?_
  refine vg_X9_tape (pc2 := 4) C lf_X9_54 dX9_check_1 rfl ?_
  refine vg_X6_size (pc2 := 7) C lf_X9_142 dX9_check_4 rfl ?_
  refine v_istore_n (pc2 := 8) (lv2 := [(1, _), (0, _)]) C dX9_check_7 (by decide) rfl rfl ?_
  refine v_aload_n (pc2 := 9) C 1 dX9_check_8 rfl rfl ?_
  refine vg_X9_tape (pc2 := 12) C lf_X9_54 dX9_check_9 rfl ?_
  refine v_cVv (pc2 := 15) C kc_X9_145 (mX6_clear (xl X) Λ _ ) (wd7 Λ _) rfl (by decide) rfl rfl (Nat.le_of_ble_eq_true rfl) dX9_check_12 rfl ?_
  refine v_aload_n (pc2 := 16) C 1 dX9_check_15 rfl rfl ?_
  refine vg_X9_ledger (pc2 := 19) C lf_X9_40 dX9_check_16 rfl ?_
  refine vg_X1_isBegun (pc2 := 22) C lf_X9_241 dX9_check_19 rfl ?_
  refine v_ifne (pc2 := 32) (pc3 := 25) C dX9_check_22 rfl rfl (fun h22 => ?_) (fun h22 => ?_)
  · have hres := (if_neg h22).symm.trans hres
    refine v_iconst (pc2 := 33) C dX9_check_32 ki_0 rfl ?_
    refine v_istore_n (pc2 := 34) (lv2 := [(2, _), (1, _), (0, _)]) C dX9_check_33 (by decide) rfl rfl ?_
    exact v_lv [2, 1, 0] rfl (bf9_check_L C E _ 7 _ _ UP.start  hres)
  · have hres := (if_pos h22).symm.trans hres
    refine v_aload_n (pc2 := 26) C 1 dX9_check_25 rfl rfl ?_
    refine v_ldc (pc2 := 28) C lc_X9_103 dX9_check_26 rfl ?_
    refine v_cVi (pc2 := 31) C kc_X9_81 (mX9_answer (xl X) Λ _ _ an2) (wd0 Λ _) rfl (by decide) rfl rfl (Nat.le_of_ble_eq_true rfl) dX9_check_28 rfl ?_
    exact r_iS C E hres dX9_check_31
theorem mX9_check (l : Launch) (Λ : LY) (σ : St)  : CT l Λ yX9_check cX9_check 3 (some .int) 1 21 [.ref (adr Λ 0)] σ (some (.int (f9_check σ).1)) (f9_check σ).2 := by
  refine CT_of (by decide +kernel) (Nat.le_of_ble_eq_true rfl) ?_
  intro X hX C E
  obtain ⟨res, hres⟩ : ∃ r, (f9_check σ) = r := ⟨_, rfl⟩
  rw [hres] at E
  exact bf9_check C E _   hres
def f9_found (σ : St) (a1 : Int32) : Int32 × St :=
  (if (f9_isWithin a1 (-1000000005 : Int32) (-1000000001 : Int32)) = (0 : Int32) then (((f9_answer σ (-1000000001 : Int32)).1), ((f9_answer σ (-1000000001 : Int32)).2)) else ((gA σ 0 (Int32.toNatClampNeg ((-1000000001 : Int32) - a1))), σ))
set_option maxHeartbeats 4000000 in
set_option maxRecDepth 100000 in
theorem bf9_found {X : CX} {Λ : LY} (C : OK X Λ cX9_found 2 RX9 1 22) {res : Int32 × St} (E : EN X Λ (some .int) (some (.int res.1)) res.2) (σ : St) (a1 : Int32)  (hres : (f9_found σ a1) = res) : VV X Λ 2 0 [(0, .ref (adr Λ 0)), (1, .int (a1))] [] σ := by
  unfold f9_found at hres
  refine v_iload_n (pc2 := 1) C 1 dX9_found_0 rfl rfl ?_
  refine v_ldc (pc2 := 3) C lc_X9_88 dX9_found_1 rfl ?_
  refine v_ldc (pc2 := 5) C lc_X9_80 dX9_found_3 rfl ?_
  refine v_cSi (pc2 := 8) C kc_X9_73 (mX9_isWithin (xl X) Λ _ _ _ _) (by decide) rfl rfl (Nat.le_of_ble_eq_true rfl) dX9_found_5 rfl ?_
  refine v_ifne (pc2 := 18) (pc3 := 11) C dX9_found_8 rfl rfl (fun h8 => ?_) (fun h8 => ?_)
  · have hres := (if_neg h8).symm.trans hres
    refine v_aload_n (pc2 := 19) C 0 dX9_found_18 rfl rfl ?_
    refine vg_X9_answered (pc2 := 22) C lf_X9_58 dX9_found_19 rfl ?_
    refine v_ldc (pc2 := 24) C lc_X9_80 dX9_found_22 rfl ?_
    refine v_iload_n (pc2 := 25) C 1 dX9_found_24 rfl rfl ?_
    refine v_isub (pc2 := 26) C dX9_found_25 rfl ?_
    refine al8 (pc2 := 27) C (found_in h8) dX9_found_26 rfl ?_
    exact r_iS C E hres dX9_found_27
  · have hres := (if_pos h8).symm.trans hres
    refine v_aload_n (pc2 := 12) C 0 dX9_found_11 rfl rfl ?_
    refine v_ldc (pc2 := 14) C lc_X9_80 dX9_found_12 rfl ?_
    refine v_cVi (pc2 := 17) C kc_X9_81 (mX9_answer (xl X) Λ _ _ an1) (wd0 Λ _) rfl (by decide) rfl rfl (Nat.le_of_ble_eq_true rfl) dX9_found_14 rfl ?_
    exact r_iS C E hres dX9_found_17
theorem mX9_found (l : Launch) (Λ : LY) (σ : St) (a1 : Int32)  : CT l Λ yX9_found cX9_found 2 (some .int) 1 22 [.ref (adr Λ 0), .int (a1)] σ (some (.int (f9_found σ a1).1)) (f9_found σ a1).2 := by
  refine CT_of (by decide +kernel) (Nat.le_of_ble_eq_true rfl) ?_
  intro X hX C E
  obtain ⟨res, hres⟩ : ∃ r, (f9_found σ a1) = r := ⟨_, rfl⟩
  rw [hres] at E
  exact bf9_found C E _ _   hres
