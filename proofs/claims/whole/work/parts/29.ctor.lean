set_option maxRecDepth 100000 in
theorem wa_I : Cond.arrayClass .int ∈ wsG := wm 97 rfl rfl
set_option maxRecDepth 100000 in
theorem wa_J : Cond.arrayClass .long ∈ wsG := wm 52 rfl rfl
set_option maxRecDepth 100000 in
theorem wa_Z : Cond.arrayClass .boolean ∈ wsG := wm 190 rfl rfl
set_option maxRecDepth 100000 in
theorem wo_i : Cond.instanceMethod objectInit ∈ wsG := wm 20 rfl rfl
set_option maxRecDepth 100000 in
theorem wo_c : Cond.code objectInit ⟨#[0xb1]⟩ 1 none ∈ wsG := wm 21 rfl rfl
theorem co_dec_0 : ∀ j, j < 7 → defaultValue (tyX0 j) = vp_V [.null, .null, .null, .null, .null, .int 0, .int 0] j := by decide +kernel
theorem co_dec_1 : ∀ j, j < 5 → defaultValue (tyX1 j) = vp_V [.null, .null, .int 0, .int 0, .int 0] j := by decide +kernel
theorem co_dec_2 : ∀ j, j < 5 → defaultValue (tyX2 j) = vp_V [.null, .null, .null, .null, .int 0] j := by decide +kernel
theorem co_dec_3 : ∀ j, j < 7 → defaultValue (tyX3 j) = vp_V [.int 0, .int 0, .int 0, .int 0, .int 0, .int 0, .int 0] j := by decide +kernel
theorem co_dec_4 : ∀ j, j < 2 → defaultValue (tyX4 j) = vp_V [.null, .null] j := by decide +kernel
theorem co_dec_5 : ∀ j, j < 3 → defaultValue (tyX5 j) = vp_V [.null, .null, .int 0] j := by decide +kernel
theorem co_dec_6 : ∀ j, j < 2 → defaultValue (tyX6 j) = vp_V [.null, .int 0] j := by decide +kernel
theorem co_dec_7 : ∀ j, j < 2 → defaultValue (tyX7 j) = vp_V [.int 0, .long 0] j := by decide +kernel
theorem co_dec_8 : ∀ j, j < 5 → defaultValue (tyX8 j) = vp_V [.null, .null, .int 0, .int 0, .int 0] j := by decide +kernel
theorem co_dec_9 : ∀ j, j < 10 → defaultValue (tyX9 j) = vp_V [.null, .null, .null, .null, .null, .null, .null, .null, .int 0, .int 0] j := by decide +kernel
theorem co_dec_10 : ∀ j, j < 28 → defaultValue (tyX10 j) = vp_V [.int 0, .null, .null, .null, .null, .null, .null, .null, .null, .null, .null, .null, .null, .int 0, .int 0, .int 0, .int 0, .int 0, .int 0, .int 0, .null, .null, .int 0, .null, .null, .int 0, .null, .int 0] j := by decide +kernel
theorem w_lv {X : CX} {Λ : LY} {A : Nat → Prop} {nL pc : Nat} {lv lv2 : List (Nat × Value)} {st : List Value} {ws : va_W} {cs sl : Nat} (ks : List Nat) (h : lv_pick lv ks = lv2) (k : VL X Λ A nL pc lv2 st ws cs sl) : VL X Λ A nL pc lv st ws cs sl := fun ls H locs hl hP hD hS => k ls H locs (lv_sub hl ks h) hP hD hS
theorem fill_step {j v : Int32} {N : Nat} {f : Nat → Int32} (hf : ∀ i : Nat, (i : Int) < j.toInt → f i = v) (hj : vp_in j N) (hN : N ≤ 1000000) : ∀ i : Nat, (i : Int) < (j + (1 : Int32)).toInt → upd f j.toNatClampNeg v i = v := by
  intro i hi
  have h2 := vp_in_iff.mp hj
  rw [i_add1 (b := N) (by omega) (by omega)] at hi
  unfold upd
  split
  · rfl
  · rename_i h3
    have h8 : (Int32.toNatClampNeg j : Int) = j.toInt := by simp only [Int32.toNatClampNeg]; omega
    exact hf i (by omega)
set_option maxHeartbeats 4000000 in
set_option maxRecDepth 100000 in
theorem mi3 (l : Launch) (Λ : LY) (h0 sz : Nat) : CI l Λ yX3_init cX3_init 1 1 12 0 0 h0 sz (.inr (3, [.int 0, .int 0, .int 0, .int 0, .int 0, .int 0, .int 0])) (fun ws => ws = [(h0, .inr (3, [.int 0, .int 0, .int 0, .int 0, .int 0, .int 0, .int (-1 : Int32)]))]) := by
  refine CI_of (by decide +kernel) (by decide +kernel) (Nat.le_of_ble_eq_true rfl) ?_
  intro X hX C hin hr hQ
  refine w_aload_n (pc2 := 1) C 0 dX3_init_0 rfl rfl ?_
  refine w_objInit (pc2 := 4) C (wm 57 rfl rfl) wo_i wo_c (by decide) (Nat.le_of_ble_eq_true rfl) dX3_init_1 rfl ?_
  refine w_aload_n (pc2 := 5) C 0 dX3_init_4 rfl rfl ?_
  refine w_iconst (pc2 := 6) C dX3_init_5 ki_m1 rfl ?_
  refine w_put (pc2 := 9) (ws2 := [(_, _)]) (ty := .int) (fs := [_, _, _, _, _, _, _]) C inG3 tyX3 tyX3_ok nmX3 0 rfl rfl 6 (by decide) rfl lf_X3_9 rfl (by decide +kernel) rfl rfl (by decide : 6 < 7) rfl dX3_init_6 rfl ?_
  exact w_ret C hr hQ rfl dX3_init_9
set_option maxHeartbeats 4000000 in
set_option maxRecDepth 100000 in
theorem mi2 (l : Launch) (Λ : LY) (h0 sz : Nat) : CI l Λ yX2_init cX2_init 1 1 12 4 40 h0 sz (.inr (2, [.null, .null, .null, .null, .int 0])) (fun ws => ∃ (q7 : Nat) (q15 : Nat) (q23 : Nat) (q31 : Nat), ws = [(h0, .inr (2, [.ref q7, .ref q15, .ref q23, .ref q31, .int 0])), (q7, .inl (cJ Λ, 10, .inr (.inl (fun _ => 0)))), (q15, .inl (cJ Λ, 10, .inr (.inl (fun _ => 0)))), (q23, .inl (cJ Λ, 10, .inr (.inl (fun _ => 0)))), (q31, .inl (cJ Λ, 10, .inr (.inl (fun _ => 0))))]) := by
  refine CI_of (by decide +kernel) (by decide +kernel) (Nat.le_of_ble_eq_true rfl) ?_
  intro X hX C hin hr hQ
  refine w_aload_n (pc2 := 1) C 0 dX2_init_0 rfl rfl ?_
  refine w_objInit (pc2 := 4) C (wm 35 rfl rfl) wo_i wo_c (by decide) (Nat.le_of_ble_eq_true rfl) dX2_init_1 rfl ?_
  refine w_aload_n (pc2 := 5) C 0 dX2_init_4 rfl rfl ?_
  refine w_bipush (pc2 := 7) C dX2_init_5 kb_10 rfl ?_
  refine w_newJ (pc2 := 9) C wa_J 10 (by decide +kernel) (by decide +kernel) (by decide) (by decide) (by decide) dX2_init_7 rfl (fun q7 => ?_)
  refine w_putF (pc2 := 12) (ws2 := [(_, _), (_, _)]) (ty := (.array .long)) (fs := [_, _, _, _, _]) C hin inG2 tyX2 tyX2_ok nmX2 0 rfl rfl 0 (by decide) rfl rfl lf_X2_9 rfl (by decide +kernel) rfl rfl (by decide : 0 < 5) rfl dX2_init_9 rfl ?_
  refine w_aload_n (pc2 := 13) C 0 dX2_init_12 rfl rfl ?_
  refine w_bipush (pc2 := 15) C dX2_init_13 kb_10 rfl ?_
  refine w_newJ (pc2 := 17) C wa_J 10 (by decide +kernel) (by decide +kernel) (by decide) (by decide) (by decide) dX2_init_15 rfl (fun q15 => ?_)
  refine w_putF (pc2 := 20) (ws2 := [(_, _), (_, _), (_, _)]) (ty := (.array .long)) (fs := [_, _, _, _, _]) C hin inG2 tyX2 tyX2_ok nmX2 0 rfl rfl 1 (by decide) rfl rfl lf_X2_15 rfl (by decide +kernel) rfl rfl (by decide : 1 < 5) rfl dX2_init_17 rfl ?_
  refine w_aload_n (pc2 := 21) C 0 dX2_init_20 rfl rfl ?_
  refine w_bipush (pc2 := 23) C dX2_init_21 kb_10 rfl ?_
  refine w_newJ (pc2 := 25) C wa_J 10 (by decide +kernel) (by decide +kernel) (by decide) (by decide) (by decide) dX2_init_23 rfl (fun q23 => ?_)
  refine w_putF (pc2 := 28) (ws2 := [(_, _), (_, _), (_, _), (_, _)]) (ty := (.array .long)) (fs := [_, _, _, _, _]) C hin inG2 tyX2 tyX2_ok nmX2 0 rfl rfl 2 (by decide) rfl rfl lf_X2_18 rfl (by decide +kernel) rfl rfl (by decide : 2 < 5) rfl dX2_init_25 rfl ?_
  refine w_aload_n (pc2 := 29) C 0 dX2_init_28 rfl rfl ?_
  refine w_bipush (pc2 := 31) C dX2_init_29 kb_10 rfl ?_
  refine w_newJ (pc2 := 33) C wa_J 10 (by decide +kernel) (by decide +kernel) (by decide) (by decide) (by decide) dX2_init_31 rfl (fun q31 => ?_)
  refine w_putF (pc2 := 36) (ws2 := [(_, _), (_, _), (_, _), (_, _), (_, _)]) (ty := (.array .long)) (fs := [_, _, _, _, _]) C hin inG2 tyX2 tyX2_ok nmX2 0 rfl rfl 3 (by decide) rfl rfl lf_X2_21 rfl (by decide +kernel) rfl rfl (by decide : 3 < 5) rfl dX2_init_33 rfl ?_
  exact w_ret C hr hQ ⟨q7, q15, q23, q31, rfl⟩ dX2_init_36
set_option maxHeartbeats 4000000 in
set_option maxRecDepth 100000 in
theorem mi1 (l : Launch) (Λ : LY) (h0 sz : Nat) : CI l Λ yX1_init cX1_init 1 1 12 2 12 h0 sz (.inr (1, [.null, .null, .int 0, .int 0, .int 0])) (fun ws => ∃ (q7 : Nat) (q15 : Nat), ws = [(h0, .inr (1, [.ref q7, .ref q15, .int (0 : Int32), .int (0 : Int32), .int (0 : Int32)])), (q7, .inl (cJ Λ, 6, .inr (.inl (fun _ => 0)))), (q15, .inl (cJ Λ, 6, .inr (.inl (fun _ => 0))))]) := by
  refine CI_of (by decide +kernel) (by decide +kernel) (Nat.le_of_ble_eq_true rfl) ?_
  intro X hX C hin hr hQ
  refine w_aload_n (pc2 := 1) C 0 dX1_init_0 rfl rfl ?_
  refine w_objInit (pc2 := 4) C (wm 196 rfl rfl) wo_i wo_c (by decide) (Nat.le_of_ble_eq_true rfl) dX1_init_1 rfl ?_
  refine w_aload_n (pc2 := 5) C 0 dX1_init_4 rfl rfl ?_
  refine w_bipush (pc2 := 7) C dX1_init_5 kb_6 rfl ?_
  refine w_newJ (pc2 := 9) C wa_J 6 (by decide +kernel) (by decide +kernel) (by decide) (by decide) (by decide) dX1_init_7 rfl (fun q7 => ?_)
  refine w_putF (pc2 := 12) (ws2 := [(_, _), (_, _)]) (ty := (.array .long)) (fs := [_, _, _, _, _]) C hin inG1 tyX1 tyX1_ok nmX1 0 rfl rfl 0 (by decide) rfl rfl lf_X1_9 rfl (by decide +kernel) rfl rfl (by decide : 0 < 5) rfl dX1_init_9 rfl ?_
  refine w_aload_n (pc2 := 13) C 0 dX1_init_12 rfl rfl ?_
  refine w_bipush (pc2 := 15) C dX1_init_13 kb_6 rfl ?_
  refine w_newJ (pc2 := 17) C wa_J 6 (by decide +kernel) (by decide +kernel) (by decide) (by decide) (by decide) dX1_init_15 rfl (fun q15 => ?_)
  refine w_putF (pc2 := 20) (ws2 := [(_, _), (_, _), (_, _)]) (ty := (.array .long)) (fs := [_, _, _, _, _]) C hin inG1 tyX1 tyX1_ok nmX1 0 rfl rfl 1 (by decide) rfl rfl lf_X1_15 rfl (by decide +kernel) rfl rfl (by decide : 1 < 5) rfl dX1_init_17 rfl ?_
  refine w_aload_n (pc2 := 21) C 0 dX1_init_20 rfl rfl ?_
  refine w_iconst (pc2 := 22) C dX1_init_21 ki_0 rfl ?_
  refine w_put (pc2 := 25) (ws2 := [(_, _), (_, _), (_, _)]) (ty := .boolean) (fs := [_, _, _, _, _]) C inG1 tyX1 tyX1_ok nmX1 0 rfl rfl 2 (by decide) rfl lf_X1_18 rfl (by decide +kernel) (by decide +kernel) (by decide +kernel) (by decide : 2 < 5) rfl dX1_init_22 rfl ?_
  refine w_aload_n (pc2 := 26) C 0 dX1_init_25 rfl rfl ?_
  refine w_iconst (pc2 := 27) C dX1_init_26 ki_0 rfl ?_
  refine w_put (pc2 := 30) (ws2 := [(_, _), (_, _), (_, _)]) (ty := .int) (fs := [_, _, _, _, _]) C inG1 tyX1 tyX1_ok nmX1 0 rfl rfl 3 (by decide) rfl lf_X1_22 rfl (by decide +kernel) rfl rfl (by decide : 3 < 5) rfl dX1_init_27 rfl ?_
  refine w_aload_n (pc2 := 31) C 0 dX1_init_30 rfl rfl ?_
  refine w_iconst (pc2 := 32) C dX1_init_31 ki_0 rfl ?_
  refine w_put (pc2 := 35) (ws2 := [(_, _), (_, _), (_, _)]) (ty := .int) (fs := [_, _, _, _, _]) C inG1 tyX1 tyX1_ok nmX1 0 rfl rfl 4 (by decide) rfl lf_X1_26 rfl (by decide +kernel) rfl rfl (by decide : 4 < 5) rfl dX1_init_32 rfl ?_
  exact w_ret C hr hQ ⟨q7, q15, rfl⟩ dX1_init_35
set_option maxHeartbeats 4000000 in
set_option maxRecDepth 100000 in
theorem mi4 (l : Launch) (Λ : LY) (h0 sz : Nat) : CI l Λ yX4_init cX4_init 1 1 12 2 48 h0 sz (.inr (4, [.null, .null])) (fun ws => ∃ (q7 : Nat) (q15 : Nat), ws = [(h0, .inr (4, [.ref q7, .ref q15])), (q7, .inl (cI Λ, 24, .inl (fun _ => 0))), (q15, .inl (cI Λ, 24, .inl (fun _ => 0)))]) := by
  refine CI_of (by decide +kernel) (by decide +kernel) (Nat.le_of_ble_eq_true rfl) ?_
  intro X hX C hin hr hQ
  refine w_aload_n (pc2 := 1) C 0 dX4_init_0 rfl rfl ?_
  refine w_objInit (pc2 := 4) C (wm 137 rfl rfl) wo_i wo_c (by decide) (Nat.le_of_ble_eq_true rfl) dX4_init_1 rfl ?_
  refine w_aload_n (pc2 := 5) C 0 dX4_init_4 rfl rfl ?_
  refine w_bipush (pc2 := 7) C dX4_init_5 kb_24 rfl ?_
  refine w_newI (pc2 := 9) C wa_I 24 (by decide +kernel) (by decide +kernel) (by decide) (by decide) (by decide) dX4_init_7 rfl (fun q7 => ?_)
  refine w_putF (pc2 := 12) (ws2 := [(_, _), (_, _)]) (ty := (.array .int)) (fs := [_, _]) C hin inG4 tyX4 tyX4_ok nmX4 0 rfl rfl 0 (by decide) rfl rfl lf_X4_9 rfl (by decide +kernel) rfl rfl (by decide : 0 < 2) rfl dX4_init_9 rfl ?_
  refine w_aload_n (pc2 := 13) C 0 dX4_init_12 rfl rfl ?_
  refine w_bipush (pc2 := 15) C dX4_init_13 kb_24 rfl ?_
  refine w_newI (pc2 := 17) C wa_I 24 (by decide +kernel) (by decide +kernel) (by decide) (by decide) (by decide) dX4_init_15 rfl (fun q15 => ?_)
  refine w_putF (pc2 := 20) (ws2 := [(_, _), (_, _), (_, _)]) (ty := (.array .int)) (fs := [_, _]) C hin inG4 tyX4 tyX4_ok nmX4 0 rfl rfl 1 (by decide) rfl rfl lf_X4_15 rfl (by decide +kernel) rfl rfl (by decide : 1 < 2) rfl dX4_init_17 rfl ?_
  exact w_ret C hr hQ ⟨q7, q15, rfl⟩ dX4_init_20
set_option maxHeartbeats 4000000 in
set_option maxRecDepth 100000 in
theorem mi6 (l : Launch) (Λ : LY) (h0 sz : Nat) : CI l Λ yX6_init cX6_init 1 1 12 1 72 h0 sz (.inr (6, [.null, .int 0])) (fun ws => ∃ (q7 : Nat), ws = [(h0, .inr (6, [.ref q7, .int (0 : Int32)])), (q7, .inl (cI Λ, 72, .inl (fun _ => 0)))]) := by
  refine CI_of (by decide +kernel) (by decide +kernel) (Nat.le_of_ble_eq_true rfl) ?_
  intro X hX C hin hr hQ
  refine w_aload_n (pc2 := 1) C 0 dX6_init_0 rfl rfl ?_
  refine w_objInit (pc2 := 4) C (wm 239 rfl rfl) wo_i wo_c (by decide) (Nat.le_of_ble_eq_true rfl) dX6_init_1 rfl ?_
  refine w_aload_n (pc2 := 5) C 0 dX6_init_4 rfl rfl ?_
  refine w_bipush (pc2 := 7) C dX6_init_5 kb_72 rfl ?_
  refine w_newI (pc2 := 9) C wa_I 72 (by decide +kernel) (by decide +kernel) (by decide) (by decide) (by decide) dX6_init_7 rfl (fun q7 => ?_)
  refine w_putF (pc2 := 12) (ws2 := [(_, _), (_, _)]) (ty := (.array .int)) (fs := [_, _]) C hin inG6 tyX6 tyX6_ok nmX6 0 rfl rfl 0 (by decide) rfl rfl lf_X6_9 rfl (by decide +kernel) rfl rfl (by decide : 0 < 2) rfl dX6_init_9 rfl ?_
  refine w_aload_n (pc2 := 13) C 0 dX6_init_12 rfl rfl ?_
  refine w_iconst (pc2 := 14) C dX6_init_13 ki_0 rfl ?_
  refine w_put (pc2 := 17) (ws2 := [(_, _), (_, _)]) (ty := .int) (fs := [_, _]) C inG6 tyX6 tyX6_ok nmX6 0 rfl rfl 1 (by decide) rfl lf_X6_15 rfl (by decide +kernel) rfl rfl (by decide : 1 < 2) rfl dX6_init_14 rfl ?_
  exact w_ret C hr hQ ⟨q7, rfl⟩ dX6_init_17
set_option maxHeartbeats 4000000 in
set_option maxRecDepth 100000 in
theorem mi7 (l : Launch) (Λ : LY) (h0 sz : Nat) : CI l Λ yX7_init cX7_init 1 1 12 0 0 h0 sz (.inr (7, [.int 0, .long 0])) (fun ws => ws = [(h0, .inr (7, [.int (0 : Int32), .long (0 : Int64)]))]) := by
  refine CI_of (by decide +kernel) (by decide +kernel) (Nat.le_of_ble_eq_true rfl) ?_
  intro X hX C hin hr hQ
  refine w_aload_n (pc2 := 1) C 0 dX7_init_0 rfl rfl ?_
  refine w_objInit (pc2 := 4) C (wm 224 rfl rfl) wo_i wo_c (by decide) (Nat.le_of_ble_eq_true rfl) dX7_init_1 rfl ?_
  refine w_aload_n (pc2 := 5) C 0 dX7_init_4 rfl rfl ?_
  refine w_iconst (pc2 := 6) C dX7_init_5 ki_0 rfl ?_
  refine w_put (pc2 := 9) (ws2 := [(_, _)]) (ty := .int) (fs := [_, _]) C inG7 tyX7 tyX7_ok nmX7 0 rfl rfl 0 (by decide) rfl lf_X7_7 rfl (by decide +kernel) rfl rfl (by decide : 0 < 2) rfl dX7_init_6 rfl ?_
  refine w_aload_n (pc2 := 10) C 0 dX7_init_9 rfl rfl ?_
  refine w_lconst (pc2 := 11) C dX7_init_10 kl_0 rfl ?_
  refine w_put (pc2 := 14) (ws2 := [(_, _)]) (ty := .long) (fs := [_, _]) C inG7 tyX7 tyX7_ok nmX7 0 rfl rfl 1 (by decide) rfl lf_X7_13 rfl (by decide +kernel) rfl rfl (by decide : 1 < 2) rfl dX7_init_11 rfl ?_
  exact w_ret C hr hQ rfl dX7_init_14
set_option maxHeartbeats 4000000 in
set_option maxRecDepth 100000 in
theorem fl5_26 {X : CX} {Λ : LY} {h0 sz : Nat} (C : OL X Λ (AI h0 sz) cX5_init 2 RX5 1 12 2 14) {q6 q14 : Nat} (kk : ∀ f : Nat → Int32, (∀ i : Nat, i < 4 → f i = (1000000 : Int32)) → VL X Λ (AI h0 sz) 2 45 [(0, .ref h0)] [] [(h0, .inr (5, [.ref q6, .ref q14, .int (0 : Int32)])), (q6, .inl (cI Λ, 4, .inl f)), (q14, .inl (cI Λ, 10, .inl (fun _ => 0)))] 2 14) : ∀ (n : Nat) (j : Int32) (f : Nat → Int32), UP 4 j n → (∀ i : Nat, (i : Int) < j.toInt → f i = (1000000 : Int32)) → VL X Λ (AI h0 sz) 2 26 [(1, .int j), (0, .ref h0)] [] [(h0, .inr (5, [.ref q6, .ref q14, .int (0 : Int32)])), (q6, .inl (cI Λ, 4, .inl f)), (q14, .inl (cI Λ, 10, .inl (fun _ => 0)))] 2 14 := by
  intro n
  induction n with
  | zero => intro j f hu; exact absurd hu (fun h => h.z)
  | succ n ih =>
    intro j f hu hf
    refine w_iload_n (pc2 := 27) C 0 dX5_init_26 rfl rfl ?_
    refine w_iconst (pc2 := 28) C dX5_init_27 ki_4 rfl ?_
    refine w_icmpge (pc2 := 45) (pc3 := 31) C dX5_init_28 rfl rfl (fun h => ?_) (fun h => ?_)
    · have t := t_le h lit_4 rfl
      exact w_lv [1] rfl (kk f (fun i hi => hf i (by omega)))
    · have hi := hu.in h (by rw [lit_4]; decide)
      refine w_aload_n (pc2 := 32) C 1 dX5_init_31 rfl rfl ?_
      refine w_get (pc2 := 35) C inG5 0 rfl rfl 0 (by decide) rfl lf_X5_9 rfl dX5_init_32 rfl ?_
      refine w_iload_n (pc2 := 36) C 0 dX5_init_35 rfl rfl ?_
      refine w_ldc (pc2 := 38) C lc_X5_22 dX5_init_36 rfl ?_
      refine w_iast (pc2 := 39) (ws2 := [(_, _), (_, _), (_, _)]) C 1 rfl hi rfl dX5_init_38 rfl ?_
      refine w_iinc (pc2 := 42) (v := j + (1 : Int32)) (lv2 := [(1, _), (0, _)]) C 0 dX5_init_39 rfl (by rw [ki_1]) (by decide) rfl rfl ?_
      refine w_goto (pc2 := 26) C dX5_init_42 rfl ?_
      exact ih _ _ (hu.step h (by rw [lit_4]; decide) (by decide)) (fill_step hf hi (by decide))
set_option maxHeartbeats 4000000 in
set_option maxRecDepth 100000 in
theorem mi5 (l : Launch) (Λ : LY) (h0 sz : Nat) : CI l Λ yX5_init cX5_init 2 1 12 2 14 h0 sz (.inr (5, [.null, .null, .int 0])) (fun ws => ∃ (q6 : Nat) (q14 : Nat) (f26 : Nat → Int32), (∀ i : Nat, i < 4 → f26 i = (1000000 : Int32)) ∧ ws = [(h0, .inr (5, [.ref q6, .ref q14, .int (0 : Int32)])), (q6, .inl (cI Λ, 4, .inl f26)), (q14, .inl (cI Λ, 10, .inl (fun _ => 0)))]) := by
  refine CI_of (by decide +kernel) (by decide +kernel) (Nat.le_of_ble_eq_true rfl) ?_
  intro X hX C hin hr hQ
  refine w_aload_n (pc2 := 1) C 0 dX5_init_0 rfl rfl ?_
  refine w_objInit (pc2 := 4) C (wm 152 rfl rfl) wo_i wo_c (by decide) (Nat.le_of_ble_eq_true rfl) dX5_init_1 rfl ?_
  refine w_aload_n (pc2 := 5) C 0 dX5_init_4 rfl rfl ?_
  refine w_iconst (pc2 := 6) C dX5_init_5 ki_4 rfl ?_
  refine w_newI (pc2 := 8) C wa_I 4 (by decide +kernel) (by decide +kernel) (by decide) (by decide) (by decide) dX5_init_6 rfl (fun q6 => ?_)
  refine w_putF (pc2 := 11) (ws2 := [(_, _), (_, _)]) (ty := (.array .int)) (fs := [_, _, _]) C hin inG5 tyX5 tyX5_ok nmX5 0 rfl rfl 0 (by decide) rfl rfl lf_X5_9 rfl (by decide +kernel) rfl rfl (by decide : 0 < 3) rfl dX5_init_8 rfl ?_
  refine w_aload_n (pc2 := 12) C 0 dX5_init_11 rfl rfl ?_
  refine w_bipush (pc2 := 14) C dX5_init_12 kb_10 rfl ?_
  refine w_newI (pc2 := 16) C wa_I 10 (by decide +kernel) (by decide +kernel) (by decide) (by decide) (by decide) dX5_init_14 rfl (fun q14 => ?_)
  refine w_putF (pc2 := 19) (ws2 := [(_, _), (_, _), (_, _)]) (ty := (.array .int)) (fs := [_, _, _]) C hin inG5 tyX5 tyX5_ok nmX5 0 rfl rfl 1 (by decide) rfl rfl lf_X5_15 rfl (by decide +kernel) rfl rfl (by decide : 1 < 3) rfl dX5_init_16 rfl ?_
  refine w_aload_n (pc2 := 20) C 0 dX5_init_19 rfl rfl ?_
  refine w_iconst (pc2 := 21) C dX5_init_20 ki_0 rfl ?_
  refine w_put (pc2 := 24) (ws2 := [(_, _), (_, _), (_, _)]) (ty := .int) (fs := [_, _, _]) C inG5 tyX5 tyX5_ok nmX5 0 rfl rfl 2 (by decide) rfl lf_X5_18 rfl (by decide +kernel) rfl rfl (by decide : 2 < 3) rfl dX5_init_21 rfl ?_
  refine w_iconst (pc2 := 25) C dX5_init_24 ki_0 rfl ?_
  refine w_istore_n (pc2 := 26) (lv2 := [(1, _), (0, _)]) C dX5_init_25 (by decide) rfl rfl ?_
  refine fl5_26 C (fun f26 pf26 => ?_) 5 (0 : Int32) (fun _ => 0) UP.start (fun i hi => by rw [lit_0] at hi; omega)
  exact w_ret C hr hQ ⟨q6, q14, f26, pf26, rfl⟩ dX5_init_45
set_option maxHeartbeats 4000000 in
set_option maxRecDepth 100000 in
theorem fl8_38 {X : CX} {Λ : LY} {h0 sz : Nat} (C : OL X Λ (AI h0 sz) cX8_init 2 RX8 1 12 2 48) {q7 q15 : Nat} (kk : ∀ f : Nat → Int32, (∀ i : Nat, i < 24 → f i = (-1 : Int32)) → VL X Λ (AI h0 sz) 2 57 [(0, .ref h0)] [] [(h0, .inr (8, [.ref q7, .ref q15, .int (50 : Int32), .int (0 : Int32), .int (0 : Int32)])), (q7, .inl (cI Λ, 24, .inl f)), (q15, .inl (cZ Λ, 24, .inl (fun _ => 0)))] 2 48) : ∀ (n : Nat) (j : Int32) (f : Nat → Int32), UP 24 j n → (∀ i : Nat, (i : Int) < j.toInt → f i = (-1 : Int32)) → VL X Λ (AI h0 sz) 2 38 [(1, .int j), (0, .ref h0)] [] [(h0, .inr (8, [.ref q7, .ref q15, .int (50 : Int32), .int (0 : Int32), .int (0 : Int32)])), (q7, .inl (cI Λ, 24, .inl f)), (q15, .inl (cZ Λ, 24, .inl (fun _ => 0)))] 2 48 := by
  intro n
  induction n with
  | zero => intro j f hu; exact absurd hu (fun h => h.z)
  | succ n ih =>
    intro j f hu hf
    refine w_iload_n (pc2 := 39) C 0 dX8_init_38 rfl rfl ?_
    refine w_bipush (pc2 := 41) C dX8_init_39 kb_24 rfl ?_
    refine w_icmpge (pc2 := 57) (pc3 := 44) C dX8_init_41 rfl rfl (fun h => ?_) (fun h => ?_)
    · have t := t_le h lit_24 rfl
      exact w_lv [1] rfl (kk f (fun i hi => hf i (by omega)))
    · have hi := hu.in h (by rw [lit_24]; decide)
      refine w_aload_n (pc2 := 45) C 1 dX8_init_44 rfl rfl ?_
      refine w_get (pc2 := 48) C inG8 0 rfl rfl 0 (by decide) rfl lf_X8_9 rfl dX8_init_45 rfl ?_
      refine w_iload_n (pc2 := 49) C 0 dX8_init_48 rfl rfl ?_
      refine w_iconst (pc2 := 50) C dX8_init_49 ki_m1 rfl ?_
      refine w_iast (pc2 := 51) (ws2 := [(_, _), (_, _), (_, _)]) C 1 rfl hi rfl dX8_init_50 rfl ?_
      refine w_iinc (pc2 := 54) (v := j + (1 : Int32)) (lv2 := [(1, _), (0, _)]) C 0 dX8_init_51 rfl (by rw [ki_1]) (by decide) rfl rfl ?_
      refine w_goto (pc2 := 38) C dX8_init_54 rfl ?_
      exact ih _ _ (hu.step h (by rw [lit_24]; decide) (by decide)) (fill_step hf hi (by decide))
set_option maxHeartbeats 4000000 in
set_option maxRecDepth 100000 in
theorem mi8 (l : Launch) (Λ : LY) (h0 sz : Nat) : CI l Λ yX8_init cX8_init 2 1 12 2 48 h0 sz (.inr (8, [.null, .null, .int 0, .int 0, .int 0])) (fun ws => ∃ (q7 : Nat) (q15 : Nat) (f38 : Nat → Int32), (∀ i : Nat, i < 24 → f38 i = (-1 : Int32)) ∧ ws = [(h0, .inr (8, [.ref q7, .ref q15, .int (50 : Int32), .int (0 : Int32), .int (0 : Int32)])), (q7, .inl (cI Λ, 24, .inl f38)), (q15, .inl (cZ Λ, 24, .inl (fun _ => 0)))]) := by
  refine CI_of (by decide +kernel) (by decide +kernel) (Nat.le_of_ble_eq_true rfl) ?_
  intro X hX C hin hr hQ
  refine w_aload_n (pc2 := 1) C 0 dX8_init_0 rfl rfl ?_
  refine w_objInit (pc2 := 4) C (wm 170 rfl rfl) wo_i wo_c (by decide) (Nat.le_of_ble_eq_true rfl) dX8_init_1 rfl ?_
  refine w_aload_n (pc2 := 5) C 0 dX8_init_4 rfl rfl ?_
  refine w_bipush (pc2 := 7) C dX8_init_5 kb_24 rfl ?_
  refine w_newI (pc2 := 9) C wa_I 24 (by decide +kernel) (by decide +kernel) (by decide) (by decide) (by decide) dX8_init_7 rfl (fun q7 => ?_)
  refine w_putF (pc2 := 12) (ws2 := [(_, _), (_, _)]) (ty := (.array .int)) (fs := [_, _, _, _, _]) C hin inG8 tyX8 tyX8_ok nmX8 0 rfl rfl 0 (by decide) rfl rfl lf_X8_9 rfl (by decide +kernel) rfl rfl (by decide : 0 < 5) rfl dX8_init_9 rfl ?_
  refine w_aload_n (pc2 := 13) C 0 dX8_init_12 rfl rfl ?_
  refine w_bipush (pc2 := 15) C dX8_init_13 kb_24 rfl ?_
  refine w_newZ (pc2 := 17) C wa_Z 24 (by decide +kernel) (by decide +kernel) (by decide) (by decide) (by decide) dX8_init_15 rfl (fun q15 => ?_)
  refine w_putF (pc2 := 20) (ws2 := [(_, _), (_, _), (_, _)]) (ty := (.array .boolean)) (fs := [_, _, _, _, _]) C hin inG8 tyX8 tyX8_ok nmX8 0 rfl rfl 1 (by decide) rfl rfl lf_X8_15 rfl (by decide +kernel) rfl rfl (by decide : 1 < 5) rfl dX8_init_17 rfl ?_
  refine w_aload_n (pc2 := 21) C 0 dX8_init_20 rfl rfl ?_
  refine w_bipush (pc2 := 23) C dX8_init_21 kb_50 rfl ?_
  refine w_put (pc2 := 26) (ws2 := [(_, _), (_, _), (_, _)]) (ty := .int) (fs := [_, _, _, _, _]) C inG8 tyX8 tyX8_ok nmX8 0 rfl rfl 2 (by decide) rfl lf_X8_19 rfl (by decide +kernel) rfl rfl (by decide : 2 < 5) rfl dX8_init_23 rfl ?_
  refine w_aload_n (pc2 := 27) C 0 dX8_init_26 rfl rfl ?_
  refine w_iconst (pc2 := 28) C dX8_init_27 ki_0 rfl ?_
  refine w_put (pc2 := 31) (ws2 := [(_, _), (_, _), (_, _)]) (ty := .int) (fs := [_, _, _, _, _]) C inG8 tyX8 tyX8_ok nmX8 0 rfl rfl 3 (by decide) rfl lf_X8_23 rfl (by decide +kernel) rfl rfl (by decide : 3 < 5) rfl dX8_init_28 rfl ?_
  refine w_aload_n (pc2 := 32) C 0 dX8_init_31 rfl rfl ?_
  refine w_iconst (pc2 := 33) C dX8_init_32 ki_0 rfl ?_
  refine w_put (pc2 := 36) (ws2 := [(_, _), (_, _), (_, _)]) (ty := .boolean) (fs := [_, _, _, _, _]) C inG8 tyX8 tyX8_ok nmX8 0 rfl rfl 4 (by decide) rfl lf_X8_26 rfl (by decide +kernel) (by decide +kernel) (by decide +kernel) (by decide : 4 < 5) rfl dX8_init_33 rfl ?_
  refine w_iconst (pc2 := 37) C dX8_init_36 ki_0 rfl ?_
  refine w_istore_n (pc2 := 38) (lv2 := [(1, _), (0, _)]) C dX8_init_37 (by decide) rfl rfl ?_
  refine fl8_38 C (fun f38 pf38 => ?_) 25 (0 : Int32) (fun _ => 0) UP.start (fun i hi => by rw [lit_0] at hi; omega)
  exact w_ret C hr hQ ⟨q7, q15, f38, pf38, rfl⟩ dX8_init_57
set_option maxHeartbeats 4000000 in
set_option maxRecDepth 100000 in
theorem mi0 (l : Launch) (Λ : LY) (h0 sz : Nat) : CI l Λ yX0_init cX0_init 2 2 32 19 155 h0 sz (.inr (0, [.null, .null, .null, .null, .null, .int 0, .int 0])) (fun ws => ∃ (q7 : Nat) (q14_1 : Nat) (q7_q14_1 : Nat) (q15_q14_1 : Nat) (q23_q14_1 : Nat) (q31_q14_1 : Nat) (q27 : Nat) (q35 : Nat) (q43 : Nat) (q71_9 : Nat) (q71_10 : Nat) (q71_11 : Nat) (q71_12 : Nat) (q71_13 : Nat) (q71_14 : Nat) (q71_15 : Nat) (q71_16 : Nat) (q71_17 : Nat) (q71_18 : Nat) (g0 : Nat → Option Nat), (∀ i : Nat, i < 10 → g0 i = some (([q71_9, q71_10, q71_11, q71_12, q71_13, q71_14, q71_15, q71_16, q71_17, q71_18] : List Nat).getD i 0)) ∧ ws = [(h0, .inr (0, [.ref q7, .ref q14_1, .ref q27, .ref q35, .ref q43, .int (0 : Int32), .int (0 : Int32)])), (q7, .inl (cR Λ, 10, .inr (.inr (.inr (.inr g0))))), (q14_1, .inr (2, [.ref q7_q14_1, .ref q15_q14_1, .ref q23_q14_1, .ref q31_q14_1, .int 0])), (q7_q14_1, .inl (cJ Λ, 10, .inr (.inl (fun _ => 0)))), (q15_q14_1, .inl (cJ Λ, 10, .inr (.inl (fun _ => 0)))), (q23_q14_1, .inl (cJ Λ, 10, .inr (.inl (fun _ => 0)))), (q31_q14_1, .inl (cJ Λ, 10, .inr (.inl (fun _ => 0)))), (q27, .inl (cJ Λ, 10, .inr (.inl (fun _ => 0)))), (q35, .inl (cJ Λ, 10, .inr (.inl (fun _ => 0)))), (q43, .inl (cI Λ, 10, .inl (fun _ => 0))), (q71_9, .inr (3, [.int 0, .int 0, .int 0, .int 0, .int 0, .int 0, .int (-1 : Int32)])), (q71_10, .inr (3, [.int 0, .int 0, .int 0, .int 0, .int 0, .int 0, .int (-1 : Int32)])), (q71_11, .inr (3, [.int 0, .int 0, .int 0, .int 0, .int 0, .int 0, .int (-1 : Int32)])), (q71_12, .inr (3, [.int 0, .int 0, .int 0, .int 0, .int 0, .int 0, .int (-1 : Int32)])), (q71_13, .inr (3, [.int 0, .int 0, .int 0, .int 0, .int 0, .int 0, .int (-1 : Int32)])), (q71_14, .inr (3, [.int 0, .int 0, .int 0, .int 0, .int 0, .int 0, .int (-1 : Int32)])), (q71_15, .inr (3, [.int 0, .int 0, .int 0, .int 0, .int 0, .int 0, .int (-1 : Int32)])), (q71_16, .inr (3, [.int 0, .int 0, .int 0, .int 0, .int 0, .int 0, .int (-1 : Int32)])), (q71_17, .inr (3, [.int 0, .int 0, .int 0, .int 0, .int 0, .int 0, .int (-1 : Int32)])), (q71_18, .inr (3, [.int 0, .int 0, .int 0, .int 0, .int 0, .int 0, .int (-1 : Int32)]))]) := by
  refine CI_of (by decide +kernel) (by decide +kernel) (Nat.le_of_ble_eq_true rfl) ?_
  intro X hX C hin hr hQ
  refine w_aload_n (pc2 := 1) C 0 dX0_init_0 rfl rfl ?_
  refine w_objInit (pc2 := 4) C (wm 27 rfl rfl) wo_i wo_c (by decide) (Nat.le_of_ble_eq_true rfl) dX0_init_1 rfl ?_
  refine w_aload_n (pc2 := 5) C 0 dX0_init_4 rfl rfl ?_
  refine w_bipush (pc2 := 7) C dX0_init_5 kb_10 rfl ?_
  refine w_newR (pc2 := 10) C (wm 28 rfl rfl) 10 (by decide +kernel) (by decide +kernel) (by decide) (by decide) (by decide) dX0_init_7 rfl (fun q7 => ?_)
  refine w_putF (pc2 := 13) (ws2 := [(_, _), (_, _)]) (ty := (.array (.object "SunRows$Row"))) (fs := [_, _, _, _, _, _, _]) C hin inG0 tyX0 tyX0_ok nmX0 0 rfl rfl 0 (by decide) rfl rfl lf_X0_11 rfl (by decide +kernel) rfl rfl (by decide : 0 < 7) rfl dX0_init_10 rfl ?_
  refine w_aload_n (pc2 := 14) C 0 dX0_init_13 rfl rfl ?_
  refine w_new (pc2 := 17) (ci := 2) C inG2 tyX2 tyX2_ok (wm 30 rfl rfl) (wm 31 rfl rfl) (wm 3 rfl rfl) rfl [.null, .null, .null, .null, .int 0] (fun j hj => by have := co_dec_2 j hj; exact this) (by decide) (by decide) dX0_init_14 rfl (fun q14_1 => ?_)
  refine w_dup (pc2 := 18) C dX0_init_17 rfl rfl ?_
  refine w_ctorN (pc2 := 21) (w1 := [_, _]) (q := q14_1) C (fun sz => mi2 (xl X) Λ q14_1 sz) rfl (by decide +kernel) (wm 33 rfl rfl) (wm 3 rfl rfl) (wm 34 rfl rfl) ⟨by decide +kernel, by decide +kernel⟩ ⟨Nat.le_of_ble_eq_true rfl, Nat.le_of_ble_eq_true rfl⟩ (Nat.le_of_ble_eq_true rfl) ⟨Nat.le_of_ble_eq_true rfl, Nat.le_of_ble_eq_true rfl⟩ dX0_init_18 rfl (fun wc hwc => ?_)
  obtain ⟨q7_q14_1, q15_q14_1, q23_q14_1, q31_q14_1, rfl⟩ := hwc
  refine w_ws (ws2 := [(_, _), (_, _), (_, _), (_, _), (_, _), (_, _), (_, _)]) rfl ?_
  refine w_putF (pc2 := 24) (ws2 := [(_, _), (_, _), (_, _), (_, _), (_, _), (_, _), (_, _)]) (ty := (.object "SunRows$Looks")) (fs := [_, _, _, _, _, _, _]) C hin inG0 tyX0 tyX0_ok nmX0 0 rfl rfl 1 (by decide) rfl rfl lf_X0_20 rfl (by decide +kernel) rfl rfl (by decide : 1 < 7) rfl dX0_init_21 rfl ?_
  refine w_aload_n (pc2 := 25) C 0 dX0_init_24 rfl rfl ?_
  refine w_bipush (pc2 := 27) C dX0_init_25 kb_10 rfl ?_
  refine w_newJ (pc2 := 29) C wa_J 10 (by decide +kernel) (by decide +kernel) (by decide) (by decide) (by decide) dX0_init_27 rfl (fun q27 => ?_)
  refine w_putF (pc2 := 32) (ws2 := [(_, _), (_, _), (_, _), (_, _), (_, _), (_, _), (_, _), (_, _)]) (ty := (.array .long)) (fs := [_, _, _, _, _, _, _]) C hin inG0 tyX0 tyX0_ok nmX0 0 rfl rfl 2 (by decide) rfl rfl lf_X0_24 rfl (by decide +kernel) rfl rfl (by decide : 2 < 7) rfl dX0_init_29 rfl ?_
  refine w_aload_n (pc2 := 33) C 0 dX0_init_32 rfl rfl ?_
  refine w_bipush (pc2 := 35) C dX0_init_33 kb_10 rfl ?_
  refine w_newJ (pc2 := 37) C wa_J 10 (by decide +kernel) (by decide +kernel) (by decide) (by decide) (by decide) dX0_init_35 rfl (fun q35 => ?_)
  refine w_putF (pc2 := 40) (ws2 := [(_, _), (_, _), (_, _), (_, _), (_, _), (_, _), (_, _), (_, _), (_, _)]) (ty := (.array .long)) (fs := [_, _, _, _, _, _, _]) C hin inG0 tyX0 tyX0_ok nmX0 0 rfl rfl 3 (by decide) rfl rfl lf_X0_28 rfl (by decide +kernel) rfl rfl (by decide : 3 < 7) rfl dX0_init_37 rfl ?_
  refine w_aload_n (pc2 := 41) C 0 dX0_init_40 rfl rfl ?_
  refine w_bipush (pc2 := 43) C dX0_init_41 kb_10 rfl ?_
  refine w_newI (pc2 := 45) C wa_I 10 (by decide +kernel) (by decide +kernel) (by decide) (by decide) (by decide) dX0_init_43 rfl (fun q43 => ?_)
  refine w_putF (pc2 := 48) (ws2 := [(_, _), (_, _), (_, _), (_, _), (_, _), (_, _), (_, _), (_, _), (_, _), (_, _)]) (ty := (.array .int)) (fs := [_, _, _, _, _, _, _]) C hin inG0 tyX0 tyX0_ok nmX0 0 rfl rfl 4 (by decide) rfl rfl lf_X0_31 rfl (by decide +kernel) rfl rfl (by decide : 4 < 7) rfl dX0_init_45 rfl ?_
  refine w_aload_n (pc2 := 49) C 0 dX0_init_48 rfl rfl ?_
  refine w_iconst (pc2 := 50) C dX0_init_49 ki_0 rfl ?_
  refine w_put (pc2 := 53) (ws2 := [(_, _), (_, _), (_, _), (_, _), (_, _), (_, _), (_, _), (_, _), (_, _), (_, _)]) (ty := .int) (fs := [_, _, _, _, _, _, _]) C inG0 tyX0 tyX0_ok nmX0 0 rfl rfl 5 (by decide) rfl lf_X0_35 rfl (by decide +kernel) rfl rfl (by decide : 5 < 7) rfl dX0_init_50 rfl ?_
  refine w_aload_n (pc2 := 54) C 0 dX0_init_53 rfl rfl ?_
  refine w_iconst (pc2 := 55) C dX0_init_54 ki_0 rfl ?_
  refine w_put (pc2 := 58) (ws2 := [(_, _), (_, _), (_, _), (_, _), (_, _), (_, _), (_, _), (_, _), (_, _), (_, _)]) (ty := .int) (fs := [_, _, _, _, _, _, _]) C inG0 tyX0 tyX0_ok nmX0 0 rfl rfl 6 (by decide) rfl lf_X0_39 rfl (by decide +kernel) rfl rfl (by decide : 6 < 7) rfl dX0_init_55 rfl ?_
  refine w_iconst (pc2 := 59) C dX0_init_58 ki_0 rfl ?_
  refine w_istore_n (pc2 := 60) (lv2 := [(1, _), (0, _)]) C dX0_init_59 (by decide) rfl rfl ?_
  refine w_iload_n (pc2 := 61) C 0 dX0_init_60 rfl rfl ?_
  refine w_bipush (pc2 := 63) C dX0_init_61 kb_10 rfl ?_
  refine w_icmpge (pc2 := 85) (pc3 := 66) C dX0_init_63 rfl rfl (fun h => absurd h (by decide +kernel)) (fun _ => ?_)
  refine w_aload_n (pc2 := 67) C 1 dX0_init_66 rfl rfl ?_
  refine w_get (pc2 := 70) C inG0 0 rfl rfl 0 (by decide) rfl lf_X0_11 rfl dX0_init_67 rfl ?_
  refine w_iload_n (pc2 := 71) C 0 dX0_init_70 rfl rfl ?_
  refine w_new (pc2 := 74) (ci := 3) C inG3 tyX3 tyX3_ok (wm 28 rfl rfl) (wm 53 rfl rfl) (wm 4 rfl rfl) rfl [.int 0, .int 0, .int 0, .int 0, .int 0, .int 0, .int 0] (fun j hj => by have := co_dec_3 j hj; exact this) (by decide) (by decide) dX0_init_71 rfl (fun q71_9 => ?_)
  refine w_dup (pc2 := 75) C dX0_init_74 rfl rfl ?_
  refine w_ctorN (pc2 := 78) (w1 := [_, _, _, _, _, _, _, _, _, _]) (q := q71_9) C (fun sz => mi3 (xl X) Λ q71_9 sz) rfl (by decide +kernel) (wm 55 rfl rfl) (wm 4 rfl rfl) (wm 56 rfl rfl) ⟨by decide +kernel, by decide +kernel⟩ ⟨Nat.le_of_ble_eq_true rfl, Nat.le_of_ble_eq_true rfl⟩ (Nat.le_of_ble_eq_true rfl) ⟨Nat.le_of_ble_eq_true rfl, Nat.le_of_ble_eq_true rfl⟩ dX0_init_75 rfl (fun wc hwc => ?_)
  obtain rfl := hwc
  refine w_ws (ws2 := [(_, _), (_, _), (_, _), (_, _), (_, _), (_, _), (_, _), (_, _), (_, _), (_, _), (_, _)]) rfl ?_
  refine w_aast (pc2 := 79) (ws2 := [(_, _), (_, _), (_, _), (_, _), (_, _), (_, _), (_, _), (_, _), (_, _), (_, _), (_, _)]) C 1 10 rfl rfl (in_lit (by decide +kernel)) rfl dX0_init_78 rfl ?_
  refine w_iinc (pc2 := 82) (v := (1 : Int32)) (lv2 := [(1, _), (0, _)]) C 0 dX0_init_79 rfl (by decide +kernel) (by decide) rfl rfl ?_
  refine w_goto (pc2 := 60) C dX0_init_82 rfl ?_
  refine w_iload_n (pc2 := 61) C 0 dX0_init_60 rfl rfl ?_
  refine w_bipush (pc2 := 63) C dX0_init_61 kb_10 rfl ?_
  refine w_icmpge (pc2 := 85) (pc3 := 66) C dX0_init_63 rfl rfl (fun h => absurd h (by decide +kernel)) (fun _ => ?_)
  refine w_aload_n (pc2 := 67) C 1 dX0_init_66 rfl rfl ?_
  refine w_get (pc2 := 70) C inG0 0 rfl rfl 0 (by decide) rfl lf_X0_11 rfl dX0_init_67 rfl ?_
  refine w_iload_n (pc2 := 71) C 0 dX0_init_70 rfl rfl ?_
  refine w_new (pc2 := 74) (ci := 3) C inG3 tyX3 tyX3_ok (wm 28 rfl rfl) (wm 53 rfl rfl) (wm 4 rfl rfl) rfl [.int 0, .int 0, .int 0, .int 0, .int 0, .int 0, .int 0] (fun j hj => by have := co_dec_3 j hj; exact this) (by decide) (by decide) dX0_init_71 rfl (fun q71_10 => ?_)
  refine w_dup (pc2 := 75) C dX0_init_74 rfl rfl ?_
  refine w_ctorN (pc2 := 78) (w1 := [_, _, _, _, _, _, _, _, _, _, _]) (q := q71_10) C (fun sz => mi3 (xl X) Λ q71_10 sz) rfl (by decide +kernel) (wm 55 rfl rfl) (wm 4 rfl rfl) (wm 56 rfl rfl) ⟨by decide +kernel, by decide +kernel⟩ ⟨Nat.le_of_ble_eq_true rfl, Nat.le_of_ble_eq_true rfl⟩ (Nat.le_of_ble_eq_true rfl) ⟨Nat.le_of_ble_eq_true rfl, Nat.le_of_ble_eq_true rfl⟩ dX0_init_75 rfl (fun wc hwc => ?_)
  obtain rfl := hwc
  refine w_ws (ws2 := [(_, _), (_, _), (_, _), (_, _), (_, _), (_, _), (_, _), (_, _), (_, _), (_, _), (_, _), (_, _)]) rfl ?_
  refine w_aast (pc2 := 79) (ws2 := [(_, _), (_, _), (_, _), (_, _), (_, _), (_, _), (_, _), (_, _), (_, _), (_, _), (_, _), (_, _)]) C 1 11 rfl rfl (in_lit (by decide +kernel)) rfl dX0_init_78 rfl ?_
  refine w_iinc (pc2 := 82) (v := (2 : Int32)) (lv2 := [(1, _), (0, _)]) C 0 dX0_init_79 rfl (by decide +kernel) (by decide) rfl rfl ?_
  refine w_goto (pc2 := 60) C dX0_init_82 rfl ?_
  refine w_iload_n (pc2 := 61) C 0 dX0_init_60 rfl rfl ?_
  refine w_bipush (pc2 := 63) C dX0_init_61 kb_10 rfl ?_
  refine w_icmpge (pc2 := 85) (pc3 := 66) C dX0_init_63 rfl rfl (fun h => absurd h (by decide +kernel)) (fun _ => ?_)
  refine w_aload_n (pc2 := 67) C 1 dX0_init_66 rfl rfl ?_
  refine w_get (pc2 := 70) C inG0 0 rfl rfl 0 (by decide) rfl lf_X0_11 rfl dX0_init_67 rfl ?_
  refine w_iload_n (pc2 := 71) C 0 dX0_init_70 rfl rfl ?_
  refine w_new (pc2 := 74) (ci := 3) C inG3 tyX3 tyX3_ok (wm 28 rfl rfl) (wm 53 rfl rfl) (wm 4 rfl rfl) rfl [.int 0, .int 0, .int 0, .int 0, .int 0, .int 0, .int 0] (fun j hj => by have := co_dec_3 j hj; exact this) (by decide) (by decide) dX0_init_71 rfl (fun q71_11 => ?_)
  refine w_dup (pc2 := 75) C dX0_init_74 rfl rfl ?_
  refine w_ctorN (pc2 := 78) (w1 := [_, _, _, _, _, _, _, _, _, _, _, _]) (q := q71_11) C (fun sz => mi3 (xl X) Λ q71_11 sz) rfl (by decide +kernel) (wm 55 rfl rfl) (wm 4 rfl rfl) (wm 56 rfl rfl) ⟨by decide +kernel, by decide +kernel⟩ ⟨Nat.le_of_ble_eq_true rfl, Nat.le_of_ble_eq_true rfl⟩ (Nat.le_of_ble_eq_true rfl) ⟨Nat.le_of_ble_eq_true rfl, Nat.le_of_ble_eq_true rfl⟩ dX0_init_75 rfl (fun wc hwc => ?_)
  obtain rfl := hwc
  refine w_ws (ws2 := [(_, _), (_, _), (_, _), (_, _), (_, _), (_, _), (_, _), (_, _), (_, _), (_, _), (_, _), (_, _), (_, _)]) rfl ?_
  refine w_aast (pc2 := 79) (ws2 := [(_, _), (_, _), (_, _), (_, _), (_, _), (_, _), (_, _), (_, _), (_, _), (_, _), (_, _), (_, _), (_, _)]) C 1 12 rfl rfl (in_lit (by decide +kernel)) rfl dX0_init_78 rfl ?_
  refine w_iinc (pc2 := 82) (v := (3 : Int32)) (lv2 := [(1, _), (0, _)]) C 0 dX0_init_79 rfl (by decide +kernel) (by decide) rfl rfl ?_
  refine w_goto (pc2 := 60) C dX0_init_82 rfl ?_
  refine w_iload_n (pc2 := 61) C 0 dX0_init_60 rfl rfl ?_
  refine w_bipush (pc2 := 63) C dX0_init_61 kb_10 rfl ?_
  refine w_icmpge (pc2 := 85) (pc3 := 66) C dX0_init_63 rfl rfl (fun h => absurd h (by decide +kernel)) (fun _ => ?_)
  refine w_aload_n (pc2 := 67) C 1 dX0_init_66 rfl rfl ?_
  refine w_get (pc2 := 70) C inG0 0 rfl rfl 0 (by decide) rfl lf_X0_11 rfl dX0_init_67 rfl ?_
  refine w_iload_n (pc2 := 71) C 0 dX0_init_70 rfl rfl ?_
  refine w_new (pc2 := 74) (ci := 3) C inG3 tyX3 tyX3_ok (wm 28 rfl rfl) (wm 53 rfl rfl) (wm 4 rfl rfl) rfl [.int 0, .int 0, .int 0, .int 0, .int 0, .int 0, .int 0] (fun j hj => by have := co_dec_3 j hj; exact this) (by decide) (by decide) dX0_init_71 rfl (fun q71_12 => ?_)
  refine w_dup (pc2 := 75) C dX0_init_74 rfl rfl ?_
  refine w_ctorN (pc2 := 78) (w1 := [_, _, _, _, _, _, _, _, _, _, _, _, _]) (q := q71_12) C (fun sz => mi3 (xl X) Λ q71_12 sz) rfl (by decide +kernel) (wm 55 rfl rfl) (wm 4 rfl rfl) (wm 56 rfl rfl) ⟨by decide +kernel, by decide +kernel⟩ ⟨Nat.le_of_ble_eq_true rfl, Nat.le_of_ble_eq_true rfl⟩ (Nat.le_of_ble_eq_true rfl) ⟨Nat.le_of_ble_eq_true rfl, Nat.le_of_ble_eq_true rfl⟩ dX0_init_75 rfl (fun wc hwc => ?_)
  obtain rfl := hwc
  refine w_ws (ws2 := [(_, _), (_, _), (_, _), (_, _), (_, _), (_, _), (_, _), (_, _), (_, _), (_, _), (_, _), (_, _), (_, _), (_, _)]) rfl ?_
  refine w_aast (pc2 := 79) (ws2 := [(_, _), (_, _), (_, _), (_, _), (_, _), (_, _), (_, _), (_, _), (_, _), (_, _), (_, _), (_, _), (_, _), (_, _)]) C 1 13 rfl rfl (in_lit (by decide +kernel)) rfl dX0_init_78 rfl ?_
  refine w_iinc (pc2 := 82) (v := (4 : Int32)) (lv2 := [(1, _), (0, _)]) C 0 dX0_init_79 rfl (by decide +kernel) (by decide) rfl rfl ?_
  refine w_goto (pc2 := 60) C dX0_init_82 rfl ?_
  refine w_iload_n (pc2 := 61) C 0 dX0_init_60 rfl rfl ?_
  refine w_bipush (pc2 := 63) C dX0_init_61 kb_10 rfl ?_
  refine w_icmpge (pc2 := 85) (pc3 := 66) C dX0_init_63 rfl rfl (fun h => absurd h (by decide +kernel)) (fun _ => ?_)
  refine w_aload_n (pc2 := 67) C 1 dX0_init_66 rfl rfl ?_
  refine w_get (pc2 := 70) C inG0 0 rfl rfl 0 (by decide) rfl lf_X0_11 rfl dX0_init_67 rfl ?_
  refine w_iload_n (pc2 := 71) C 0 dX0_init_70 rfl rfl ?_
  refine w_new (pc2 := 74) (ci := 3) C inG3 tyX3 tyX3_ok (wm 28 rfl rfl) (wm 53 rfl rfl) (wm 4 rfl rfl) rfl [.int 0, .int 0, .int 0, .int 0, .int 0, .int 0, .int 0] (fun j hj => by have := co_dec_3 j hj; exact this) (by decide) (by decide) dX0_init_71 rfl (fun q71_13 => ?_)
  refine w_dup (pc2 := 75) C dX0_init_74 rfl rfl ?_
  refine w_ctorN (pc2 := 78) (w1 := [_, _, _, _, _, _, _, _, _, _, _, _, _, _]) (q := q71_13) C (fun sz => mi3 (xl X) Λ q71_13 sz) rfl (by decide +kernel) (wm 55 rfl rfl) (wm 4 rfl rfl) (wm 56 rfl rfl) ⟨by decide +kernel, by decide +kernel⟩ ⟨Nat.le_of_ble_eq_true rfl, Nat.le_of_ble_eq_true rfl⟩ (Nat.le_of_ble_eq_true rfl) ⟨Nat.le_of_ble_eq_true rfl, Nat.le_of_ble_eq_true rfl⟩ dX0_init_75 rfl (fun wc hwc => ?_)
  obtain rfl := hwc
  refine w_ws (ws2 := [(_, _), (_, _), (_, _), (_, _), (_, _), (_, _), (_, _), (_, _), (_, _), (_, _), (_, _), (_, _), (_, _), (_, _), (_, _)]) rfl ?_
  refine w_aast (pc2 := 79) (ws2 := [(_, _), (_, _), (_, _), (_, _), (_, _), (_, _), (_, _), (_, _), (_, _), (_, _), (_, _), (_, _), (_, _), (_, _), (_, _)]) C 1 14 rfl rfl (in_lit (by decide +kernel)) rfl dX0_init_78 rfl ?_
  refine w_iinc (pc2 := 82) (v := (5 : Int32)) (lv2 := [(1, _), (0, _)]) C 0 dX0_init_79 rfl (by decide +kernel) (by decide) rfl rfl ?_
  refine w_goto (pc2 := 60) C dX0_init_82 rfl ?_
  refine w_iload_n (pc2 := 61) C 0 dX0_init_60 rfl rfl ?_
  refine w_bipush (pc2 := 63) C dX0_init_61 kb_10 rfl ?_
  refine w_icmpge (pc2 := 85) (pc3 := 66) C dX0_init_63 rfl rfl (fun h => absurd h (by decide +kernel)) (fun _ => ?_)
  refine w_aload_n (pc2 := 67) C 1 dX0_init_66 rfl rfl ?_
  refine w_get (pc2 := 70) C inG0 0 rfl rfl 0 (by decide) rfl lf_X0_11 rfl dX0_init_67 rfl ?_
  refine w_iload_n (pc2 := 71) C 0 dX0_init_70 rfl rfl ?_
  refine w_new (pc2 := 74) (ci := 3) C inG3 tyX3 tyX3_ok (wm 28 rfl rfl) (wm 53 rfl rfl) (wm 4 rfl rfl) rfl [.int 0, .int 0, .int 0, .int 0, .int 0, .int 0, .int 0] (fun j hj => by have := co_dec_3 j hj; exact this) (by decide) (by decide) dX0_init_71 rfl (fun q71_14 => ?_)
  refine w_dup (pc2 := 75) C dX0_init_74 rfl rfl ?_
  refine w_ctorN (pc2 := 78) (w1 := [_, _, _, _, _, _, _, _, _, _, _, _, _, _, _]) (q := q71_14) C (fun sz => mi3 (xl X) Λ q71_14 sz) rfl (by decide +kernel) (wm 55 rfl rfl) (wm 4 rfl rfl) (wm 56 rfl rfl) ⟨by decide +kernel, by decide +kernel⟩ ⟨Nat.le_of_ble_eq_true rfl, Nat.le_of_ble_eq_true rfl⟩ (Nat.le_of_ble_eq_true rfl) ⟨Nat.le_of_ble_eq_true rfl, Nat.le_of_ble_eq_true rfl⟩ dX0_init_75 rfl (fun wc hwc => ?_)
  obtain rfl := hwc
  refine w_ws (ws2 := [(_, _), (_, _), (_, _), (_, _), (_, _), (_, _), (_, _), (_, _), (_, _), (_, _), (_, _), (_, _), (_, _), (_, _), (_, _), (_, _)]) rfl ?_
  refine w_aast (pc2 := 79) (ws2 := [(_, _), (_, _), (_, _), (_, _), (_, _), (_, _), (_, _), (_, _), (_, _), (_, _), (_, _), (_, _), (_, _), (_, _), (_, _), (_, _)]) C 1 15 rfl rfl (in_lit (by decide +kernel)) rfl dX0_init_78 rfl ?_
  refine w_iinc (pc2 := 82) (v := (6 : Int32)) (lv2 := [(1, _), (0, _)]) C 0 dX0_init_79 rfl (by decide +kernel) (by decide) rfl rfl ?_
  refine w_goto (pc2 := 60) C dX0_init_82 rfl ?_
  refine w_iload_n (pc2 := 61) C 0 dX0_init_60 rfl rfl ?_
  refine w_bipush (pc2 := 63) C dX0_init_61 kb_10 rfl ?_
  refine w_icmpge (pc2 := 85) (pc3 := 66) C dX0_init_63 rfl rfl (fun h => absurd h (by decide +kernel)) (fun _ => ?_)
  refine w_aload_n (pc2 := 67) C 1 dX0_init_66 rfl rfl ?_
  refine w_get (pc2 := 70) C inG0 0 rfl rfl 0 (by decide) rfl lf_X0_11 rfl dX0_init_67 rfl ?_
  refine w_iload_n (pc2 := 71) C 0 dX0_init_70 rfl rfl ?_
  refine w_new (pc2 := 74) (ci := 3) C inG3 tyX3 tyX3_ok (wm 28 rfl rfl) (wm 53 rfl rfl) (wm 4 rfl rfl) rfl [.int 0, .int 0, .int 0, .int 0, .int 0, .int 0, .int 0] (fun j hj => by have := co_dec_3 j hj; exact this) (by decide) (by decide) dX0_init_71 rfl (fun q71_15 => ?_)
  refine w_dup (pc2 := 75) C dX0_init_74 rfl rfl ?_
  refine w_ctorN (pc2 := 78) (w1 := [_, _, _, _, _, _, _, _, _, _, _, _, _, _, _, _]) (q := q71_15) C (fun sz => mi3 (xl X) Λ q71_15 sz) rfl (by decide +kernel) (wm 55 rfl rfl) (wm 4 rfl rfl) (wm 56 rfl rfl) ⟨by decide +kernel, by decide +kernel⟩ ⟨Nat.le_of_ble_eq_true rfl, Nat.le_of_ble_eq_true rfl⟩ (Nat.le_of_ble_eq_true rfl) ⟨Nat.le_of_ble_eq_true rfl, Nat.le_of_ble_eq_true rfl⟩ dX0_init_75 rfl (fun wc hwc => ?_)
  obtain rfl := hwc
  refine w_ws (ws2 := [(_, _), (_, _), (_, _), (_, _), (_, _), (_, _), (_, _), (_, _), (_, _), (_, _), (_, _), (_, _), (_, _), (_, _), (_, _), (_, _), (_, _)]) rfl ?_
  refine w_aast (pc2 := 79) (ws2 := [(_, _), (_, _), (_, _), (_, _), (_, _), (_, _), (_, _), (_, _), (_, _), (_, _), (_, _), (_, _), (_, _), (_, _), (_, _), (_, _), (_, _)]) C 1 16 rfl rfl (in_lit (by decide +kernel)) rfl dX0_init_78 rfl ?_
  refine w_iinc (pc2 := 82) (v := (7 : Int32)) (lv2 := [(1, _), (0, _)]) C 0 dX0_init_79 rfl (by decide +kernel) (by decide) rfl rfl ?_
  refine w_goto (pc2 := 60) C dX0_init_82 rfl ?_
  refine w_iload_n (pc2 := 61) C 0 dX0_init_60 rfl rfl ?_
  refine w_bipush (pc2 := 63) C dX0_init_61 kb_10 rfl ?_
  refine w_icmpge (pc2 := 85) (pc3 := 66) C dX0_init_63 rfl rfl (fun h => absurd h (by decide +kernel)) (fun _ => ?_)
  refine w_aload_n (pc2 := 67) C 1 dX0_init_66 rfl rfl ?_
  refine w_get (pc2 := 70) C inG0 0 rfl rfl 0 (by decide) rfl lf_X0_11 rfl dX0_init_67 rfl ?_
  refine w_iload_n (pc2 := 71) C 0 dX0_init_70 rfl rfl ?_
  refine w_new (pc2 := 74) (ci := 3) C inG3 tyX3 tyX3_ok (wm 28 rfl rfl) (wm 53 rfl rfl) (wm 4 rfl rfl) rfl [.int 0, .int 0, .int 0, .int 0, .int 0, .int 0, .int 0] (fun j hj => by have := co_dec_3 j hj; exact this) (by decide) (by decide) dX0_init_71 rfl (fun q71_16 => ?_)
  refine w_dup (pc2 := 75) C dX0_init_74 rfl rfl ?_
  refine w_ctorN (pc2 := 78) (w1 := [_, _, _, _, _, _, _, _, _, _, _, _, _, _, _, _, _]) (q := q71_16) C (fun sz => mi3 (xl X) Λ q71_16 sz) rfl (by decide +kernel) (wm 55 rfl rfl) (wm 4 rfl rfl) (wm 56 rfl rfl) ⟨by decide +kernel, by decide +kernel⟩ ⟨Nat.le_of_ble_eq_true rfl, Nat.le_of_ble_eq_true rfl⟩ (Nat.le_of_ble_eq_true rfl) ⟨Nat.le_of_ble_eq_true rfl, Nat.le_of_ble_eq_true rfl⟩ dX0_init_75 rfl (fun wc hwc => ?_)
  obtain rfl := hwc
  refine w_ws (ws2 := [(_, _), (_, _), (_, _), (_, _), (_, _), (_, _), (_, _), (_, _), (_, _), (_, _), (_, _), (_, _), (_, _), (_, _), (_, _), (_, _), (_, _), (_, _)]) rfl ?_
  refine w_aast (pc2 := 79) (ws2 := [(_, _), (_, _), (_, _), (_, _), (_, _), (_, _), (_, _), (_, _), (_, _), (_, _), (_, _), (_, _), (_, _), (_, _), (_, _), (_, _), (_, _), (_, _)]) C 1 17 rfl rfl (in_lit (by decide +kernel)) rfl dX0_init_78 rfl ?_
  refine w_iinc (pc2 := 82) (v := (8 : Int32)) (lv2 := [(1, _), (0, _)]) C 0 dX0_init_79 rfl (by decide +kernel) (by decide) rfl rfl ?_
  refine w_goto (pc2 := 60) C dX0_init_82 rfl ?_
  refine w_iload_n (pc2 := 61) C 0 dX0_init_60 rfl rfl ?_
  refine w_bipush (pc2 := 63) C dX0_init_61 kb_10 rfl ?_
  refine w_icmpge (pc2 := 85) (pc3 := 66) C dX0_init_63 rfl rfl (fun h => absurd h (by decide +kernel)) (fun _ => ?_)
  refine w_aload_n (pc2 := 67) C 1 dX0_init_66 rfl rfl ?_
  refine w_get (pc2 := 70) C inG0 0 rfl rfl 0 (by decide) rfl lf_X0_11 rfl dX0_init_67 rfl ?_
  refine w_iload_n (pc2 := 71) C 0 dX0_init_70 rfl rfl ?_
  refine w_new (pc2 := 74) (ci := 3) C inG3 tyX3 tyX3_ok (wm 28 rfl rfl) (wm 53 rfl rfl) (wm 4 rfl rfl) rfl [.int 0, .int 0, .int 0, .int 0, .int 0, .int 0, .int 0] (fun j hj => by have := co_dec_3 j hj; exact this) (by decide) (by decide) dX0_init_71 rfl (fun q71_17 => ?_)
  refine w_dup (pc2 := 75) C dX0_init_74 rfl rfl ?_
  refine w_ctorN (pc2 := 78) (w1 := [_, _, _, _, _, _, _, _, _, _, _, _, _, _, _, _, _, _]) (q := q71_17) C (fun sz => mi3 (xl X) Λ q71_17 sz) rfl (by decide +kernel) (wm 55 rfl rfl) (wm 4 rfl rfl) (wm 56 rfl rfl) ⟨by decide +kernel, by decide +kernel⟩ ⟨Nat.le_of_ble_eq_true rfl, Nat.le_of_ble_eq_true rfl⟩ (Nat.le_of_ble_eq_true rfl) ⟨Nat.le_of_ble_eq_true rfl, Nat.le_of_ble_eq_true rfl⟩ dX0_init_75 rfl (fun wc hwc => ?_)
  obtain rfl := hwc
  refine w_ws (ws2 := [(_, _), (_, _), (_, _), (_, _), (_, _), (_, _), (_, _), (_, _), (_, _), (_, _), (_, _), (_, _), (_, _), (_, _), (_, _), (_, _), (_, _), (_, _), (_, _)]) rfl ?_
  refine w_aast (pc2 := 79) (ws2 := [(_, _), (_, _), (_, _), (_, _), (_, _), (_, _), (_, _), (_, _), (_, _), (_, _), (_, _), (_, _), (_, _), (_, _), (_, _), (_, _), (_, _), (_, _), (_, _)]) C 1 18 rfl rfl (in_lit (by decide +kernel)) rfl dX0_init_78 rfl ?_
  refine w_iinc (pc2 := 82) (v := (9 : Int32)) (lv2 := [(1, _), (0, _)]) C 0 dX0_init_79 rfl (by decide +kernel) (by decide) rfl rfl ?_
  refine w_goto (pc2 := 60) C dX0_init_82 rfl ?_
  refine w_iload_n (pc2 := 61) C 0 dX0_init_60 rfl rfl ?_
  refine w_bipush (pc2 := 63) C dX0_init_61 kb_10 rfl ?_
  refine w_icmpge (pc2 := 85) (pc3 := 66) C dX0_init_63 rfl rfl (fun h => absurd h (by decide +kernel)) (fun _ => ?_)
  refine w_aload_n (pc2 := 67) C 1 dX0_init_66 rfl rfl ?_
  refine w_get (pc2 := 70) C inG0 0 rfl rfl 0 (by decide) rfl lf_X0_11 rfl dX0_init_67 rfl ?_
  refine w_iload_n (pc2 := 71) C 0 dX0_init_70 rfl rfl ?_
  refine w_new (pc2 := 74) (ci := 3) C inG3 tyX3 tyX3_ok (wm 28 rfl rfl) (wm 53 rfl rfl) (wm 4 rfl rfl) rfl [.int 0, .int 0, .int 0, .int 0, .int 0, .int 0, .int 0] (fun j hj => by have := co_dec_3 j hj; exact this) (by decide) (by decide) dX0_init_71 rfl (fun q71_18 => ?_)
  refine w_dup (pc2 := 75) C dX0_init_74 rfl rfl ?_
  refine w_ctorN (pc2 := 78) (w1 := [_, _, _, _, _, _, _, _, _, _, _, _, _, _, _, _, _, _, _]) (q := q71_18) C (fun sz => mi3 (xl X) Λ q71_18 sz) rfl (by decide +kernel) (wm 55 rfl rfl) (wm 4 rfl rfl) (wm 56 rfl rfl) ⟨by decide +kernel, by decide +kernel⟩ ⟨Nat.le_of_ble_eq_true rfl, Nat.le_of_ble_eq_true rfl⟩ (Nat.le_of_ble_eq_true rfl) ⟨Nat.le_of_ble_eq_true rfl, Nat.le_of_ble_eq_true rfl⟩ dX0_init_75 rfl (fun wc hwc => ?_)
  obtain rfl := hwc
  refine w_ws (ws2 := [(_, _), (_, _), (_, _), (_, _), (_, _), (_, _), (_, _), (_, _), (_, _), (_, _), (_, _), (_, _), (_, _), (_, _), (_, _), (_, _), (_, _), (_, _), (_, _), (_, _)]) rfl ?_
  refine w_aast (pc2 := 79) (ws2 := [(_, _), (_, _), (_, _), (_, _), (_, _), (_, _), (_, _), (_, _), (_, _), (_, _), (_, _), (_, _), (_, _), (_, _), (_, _), (_, _), (_, _), (_, _), (_, _), (_, _)]) C 1 19 rfl rfl (in_lit (by decide +kernel)) rfl dX0_init_78 rfl ?_
  refine w_iinc (pc2 := 82) (v := (10 : Int32)) (lv2 := [(1, _), (0, _)]) C 0 dX0_init_79 rfl (by decide +kernel) (by decide) rfl rfl ?_
  refine w_goto (pc2 := 60) C dX0_init_82 rfl ?_
  refine w_iload_n (pc2 := 61) C 0 dX0_init_60 rfl rfl ?_
  refine w_bipush (pc2 := 63) C dX0_init_61 kb_10 rfl ?_
  refine w_icmpge (pc2 := 85) (pc3 := 66) C dX0_init_63 rfl rfl (fun _ => ?_) (fun h => absurd (by decide +kernel) h)
  exact w_ret C hr hQ ⟨q7, q14_1, q7_q14_1, q15_q14_1, q23_q14_1, q31_q14_1, q27, q35, q43, q71_9, q71_10, q71_11, q71_12, q71_13, q71_14, q71_15, q71_16, q71_17, q71_18, (va_up (va_up (va_up (va_up (va_up (va_up (va_up (va_up (va_up (va_up (fun _ => none) (Int32.toNatClampNeg (0 : Int32)) (some q71_9)) (Int32.toNatClampNeg (1 : Int32)) (some q71_10)) (Int32.toNatClampNeg (2 : Int32)) (some q71_11)) (Int32.toNatClampNeg (3 : Int32)) (some q71_12)) (Int32.toNatClampNeg (4 : Int32)) (some q71_13)) (Int32.toNatClampNeg (5 : Int32)) (some q71_14)) (Int32.toNatClampNeg (6 : Int32)) (some q71_15)) (Int32.toNatClampNeg (7 : Int32)) (some q71_16)) (Int32.toNatClampNeg (8 : Int32)) (some q71_17)) (Int32.toNatClampNeg (9 : Int32)) (some q71_18)), (fun i hi => by rcases (show i = 0 ∨ i = 1 ∨ i = 2 ∨ i = 3 ∨ i = 4 ∨ i = 5 ∨ i = 6 ∨ i = 7 ∨ i = 8 ∨ i = 9 by omega) with rfl | rfl | rfl | rfl | rfl | rfl | rfl | rfl | rfl | rfl <;> rfl), rfl⟩ dX0_init_85
set_option maxHeartbeats 4000000 in
set_option maxRecDepth 100000 in
theorem mi9 (l : Launch) (Λ : LY) (h0 sz : Nat) : CI l Λ yX9_init cX9_init 1 3 53 36 380 h0 sz (.inr (9, [.null, .null, .null, .null, .null, .null, .null, .null, .int 0, .int 0])) (fun ws => ∃ (q5_0 : Nat) (q7_q5_0 : Nat) (q14_1_q5_0 : Nat) (q7_q14_1_q5_0 : Nat) (q15_q14_1_q5_0 : Nat) (q23_q14_1_q5_0 : Nat) (q31_q14_1_q5_0 : Nat) (q27_q5_0 : Nat) (q35_q5_0 : Nat) (q43_q5_0 : Nat) (q71_9_q5_0 : Nat) (q71_10_q5_0 : Nat) (q71_11_q5_0 : Nat) (q71_12_q5_0 : Nat) (q71_13_q5_0 : Nat) (q71_14_q5_0 : Nat) (q71_15_q5_0 : Nat) (q71_16_q5_0 : Nat) (q71_17_q5_0 : Nat) (q71_18_q5_0 : Nat) (g0_q5_0 : Nat → Option Nat) (q16_20 : Nat) (q7_q16_20 : Nat) (q15_q16_20 : Nat) (q27_23 : Nat) (q6_q27_23 : Nat) (q14_q27_23 : Nat) (f26_q27_23 : Nat → Int32) (q38_26 : Nat) (q7_q38_26 : Nat) (q15_q38_26 : Nat) (f38_q38_26 : Nat → Int32) (q49_29 : Nat) (q7_q49_29 : Nat) (q15_q49_29 : Nat) (q60_32 : Nat) (q71_33 : Nat) (q7_q71_33 : Nat) (q83 : Nat), (∀ i : Nat, i < 10 → g0_q5_0 i = some (([q71_9_q5_0, q71_10_q5_0, q71_11_q5_0, q71_12_q5_0, q71_13_q5_0, q71_14_q5_0, q71_15_q5_0, q71_16_q5_0, q71_17_q5_0, q71_18_q5_0] : List Nat).getD i 0)) ∧ (∀ i : Nat, i < 4 → f26_q27_23 i = (1000000 : Int32)) ∧ (∀ i : Nat, i < 24 → f38_q38_26 i = (-1 : Int32)) ∧ ws = [(h0, .inr (9, [.ref q5_0, .ref q16_20, .ref q27_23, .ref q38_26, .ref q49_29, .ref q60_32, .ref q71_33, .ref q83, .int (0 : Int32), .int (0 : Int32)])), (q5_0, .inr (0, [.ref q7_q5_0, .ref q14_1_q5_0, .ref q27_q5_0, .ref q35_q5_0, .ref q43_q5_0, .int (0 : Int32), .int (0 : Int32)])), (q7_q5_0, .inl (cR Λ, 10, .inr (.inr (.inr (.inr g0_q5_0))))), (q14_1_q5_0, .inr (2, [.ref q7_q14_1_q5_0, .ref q15_q14_1_q5_0, .ref q23_q14_1_q5_0, .ref q31_q14_1_q5_0, .int 0])), (q7_q14_1_q5_0, .inl (cJ Λ, 10, .inr (.inl (fun _ => 0)))), (q15_q14_1_q5_0, .inl (cJ Λ, 10, .inr (.inl (fun _ => 0)))), (q23_q14_1_q5_0, .inl (cJ Λ, 10, .inr (.inl (fun _ => 0)))), (q31_q14_1_q5_0, .inl (cJ Λ, 10, .inr (.inl (fun _ => 0)))), (q27_q5_0, .inl (cJ Λ, 10, .inr (.inl (fun _ => 0)))), (q35_q5_0, .inl (cJ Λ, 10, .inr (.inl (fun _ => 0)))), (q43_q5_0, .inl (cI Λ, 10, .inl (fun _ => 0))), (q71_9_q5_0, .inr (3, [.int 0, .int 0, .int 0, .int 0, .int 0, .int 0, .int (-1 : Int32)])), (q71_10_q5_0, .inr (3, [.int 0, .int 0, .int 0, .int 0, .int 0, .int 0, .int (-1 : Int32)])), (q71_11_q5_0, .inr (3, [.int 0, .int 0, .int 0, .int 0, .int 0, .int 0, .int (-1 : Int32)])), (q71_12_q5_0, .inr (3, [.int 0, .int 0, .int 0, .int 0, .int 0, .int 0, .int (-1 : Int32)])), (q71_13_q5_0, .inr (3, [.int 0, .int 0, .int 0, .int 0, .int 0, .int 0, .int (-1 : Int32)])), (q71_14_q5_0, .inr (3, [.int 0, .int 0, .int 0, .int 0, .int 0, .int 0, .int (-1 : Int32)])), (q71_15_q5_0, .inr (3, [.int 0, .int 0, .int 0, .int 0, .int 0, .int 0, .int (-1 : Int32)])), (q71_16_q5_0, .inr (3, [.int 0, .int 0, .int 0, .int 0, .int 0, .int 0, .int (-1 : Int32)])), (q71_17_q5_0, .inr (3, [.int 0, .int 0, .int 0, .int 0, .int 0, .int 0, .int (-1 : Int32)])), (q71_18_q5_0, .inr (3, [.int 0, .int 0, .int 0, .int 0, .int 0, .int 0, .int (-1 : Int32)])), (q16_20, .inr (4, [.ref q7_q16_20, .ref q15_q16_20])), (q7_q16_20, .inl (cI Λ, 24, .inl (fun _ => 0))), (q15_q16_20, .inl (cI Λ, 24, .inl (fun _ => 0))), (q27_23, .inr (5, [.ref q6_q27_23, .ref q14_q27_23, .int (0 : Int32)])), (q6_q27_23, .inl (cI Λ, 4, .inl f26_q27_23)), (q14_q27_23, .inl (cI Λ, 10, .inl (fun _ => 0))), (q38_26, .inr (8, [.ref q7_q38_26, .ref q15_q38_26, .int (50 : Int32), .int (0 : Int32), .int (0 : Int32)])), (q7_q38_26, .inl (cI Λ, 24, .inl f38_q38_26)), (q15_q38_26, .inl (cZ Λ, 24, .inl (fun _ => 0))), (q49_29, .inr (1, [.ref q7_q49_29, .ref q15_q49_29, .int (0 : Int32), .int (0 : Int32), .int (0 : Int32)])), (q7_q49_29, .inl (cJ Λ, 6, .inr (.inl (fun _ => 0)))), (q15_q49_29, .inl (cJ Λ, 6, .inr (.inl (fun _ => 0)))), (q60_32, .inr (7, [.int (0 : Int32), .long (0 : Int64)])), (q71_33, .inr (6, [.ref q7_q71_33, .int (0 : Int32)])), (q7_q71_33, .inl (cI Λ, 72, .inl (fun _ => 0))), (q83, .inl (cI Λ, 5, .inl (fun _ => 0)))]) := by
  refine CI_of (by decide +kernel) (by decide +kernel) (Nat.le_of_ble_eq_true rfl) ?_
  intro X hX C hin hr hQ
  refine w_aload_n (pc2 := 1) C 0 dX9_init_0 rfl rfl ?_
  refine w_objInit (pc2 := 4) C (wm 19 rfl rfl) wo_i wo_c (by decide) (Nat.le_of_ble_eq_true rfl) dX9_init_1 rfl ?_
  refine w_aload_n (pc2 := 5) C 0 dX9_init_4 rfl rfl ?_
  refine w_new (pc2 := 8) (ci := 0) C inG0 tyX0 tyX0_ok (wm 22 rfl rfl) (wm 23 rfl rfl) (wm 2 rfl rfl) rfl [.null, .null, .null, .null, .null, .int 0, .int 0] (fun j hj => by have := co_dec_0 j hj; exact this) (by decide) (by decide) dX9_init_5 rfl (fun q5_0 => ?_)
  refine w_dup (pc2 := 9) C dX9_init_8 rfl rfl ?_
  refine w_ctor (pc2 := 12) (w1 := [_]) (q := q5_0) C (fun sz => mi0 (xl X) Λ q5_0 sz) rfl (wm 24 rfl rfl) (wm 25 rfl rfl) (wm 2 rfl rfl) (wm 26 rfl rfl) ⟨by decide +kernel, by decide +kernel⟩ ⟨Nat.le_of_ble_eq_true rfl, Nat.le_of_ble_eq_true rfl⟩ (Nat.le_of_ble_eq_true rfl) ⟨Nat.le_of_ble_eq_true rfl, Nat.le_of_ble_eq_true rfl⟩ dX9_init_9 rfl (fun wc hwc => ?_)
  obtain ⟨q7_q5_0, q14_1_q5_0, q7_q14_1_q5_0, q15_q14_1_q5_0, q23_q14_1_q5_0, q31_q14_1_q5_0, q27_q5_0, q35_q5_0, q43_q5_0, q71_9_q5_0, q71_10_q5_0, q71_11_q5_0, q71_12_q5_0, q71_13_q5_0, q71_14_q5_0, q71_15_q5_0, q71_16_q5_0, q71_17_q5_0, q71_18_q5_0, g0_q5_0, pq5_0_0, rfl⟩ := hwc
  refine w_ws (ws2 := [(_, _), (_, _), (_, _), (_, _), (_, _), (_, _), (_, _), (_, _), (_, _), (_, _), (_, _), (_, _), (_, _), (_, _), (_, _), (_, _), (_, _), (_, _), (_, _), (_, _), (_, _)]) rfl ?_
  refine w_putF (pc2 := 15) (ws2 := [(_, _), (_, _), (_, _), (_, _), (_, _), (_, _), (_, _), (_, _), (_, _), (_, _), (_, _), (_, _), (_, _), (_, _), (_, _), (_, _), (_, _), (_, _), (_, _), (_, _), (_, _)]) (ty := (.object "SunRows$Field")) (fs := [_, _, _, _, _, _, _, _, _, _]) C hin inG9 tyX9 tyX9_ok nmX9 0 rfl rfl 0 (by decide) rfl rfl lf_X9_10 rfl (by decide +kernel) rfl rfl (by decide : 0 < 10) rfl dX9_init_12 rfl ?_
  refine w_aload_n (pc2 := 16) C 0 dX9_init_15 rfl rfl ?_
  refine w_new (pc2 := 19) (ci := 4) C inG4 tyX4 tyX4_ok (wm 132 rfl rfl) (wm 133 rfl rfl) (wm 5 rfl rfl) rfl [.null, .null] (fun j hj => by have := co_dec_4 j hj; exact this) (by decide) (by decide) dX9_init_16 rfl (fun q16_20 => ?_)
  refine w_dup (pc2 := 20) C dX9_init_19 rfl rfl ?_
  refine w_ctorN (pc2 := 23) (w1 := [_, _, _, _, _, _, _, _, _, _, _, _, _, _, _, _, _, _, _, _, _]) (q := q16_20) C (fun sz => mi4 (xl X) Λ q16_20 sz) rfl (by decide +kernel) (wm 135 rfl rfl) (wm 5 rfl rfl) (wm 136 rfl rfl) ⟨by decide +kernel, by decide +kernel⟩ ⟨Nat.le_of_ble_eq_true rfl, Nat.le_of_ble_eq_true rfl⟩ (Nat.le_of_ble_eq_true rfl) ⟨Nat.le_of_ble_eq_true rfl, Nat.le_of_ble_eq_true rfl⟩ dX9_init_20 rfl (fun wc hwc => ?_)
  obtain ⟨q7_q16_20, q15_q16_20, rfl⟩ := hwc
  refine w_ws (ws2 := [(_, _), (_, _), (_, _), (_, _), (_, _), (_, _), (_, _), (_, _), (_, _), (_, _), (_, _), (_, _), (_, _), (_, _), (_, _), (_, _), (_, _), (_, _), (_, _), (_, _), (_, _), (_, _), (_, _), (_, _)]) rfl ?_
  refine w_putF (pc2 := 26) (ws2 := [(_, _), (_, _), (_, _), (_, _), (_, _), (_, _), (_, _), (_, _), (_, _), (_, _), (_, _), (_, _), (_, _), (_, _), (_, _), (_, _), (_, _), (_, _), (_, _), (_, _), (_, _), (_, _), (_, _), (_, _)]) (ty := (.object "SunRows$Sky")) (fs := [_, _, _, _, _, _, _, _, _, _]) C hin inG9 tyX9 tyX9_ok nmX9 0 rfl rfl 1 (by decide) rfl rfl lf_X9_19 rfl (by decide +kernel) rfl rfl (by decide : 1 < 10) rfl dX9_init_23 rfl ?_
  refine w_aload_n (pc2 := 27) C 0 dX9_init_26 rfl rfl ?_
  refine w_new (pc2 := 30) (ci := 5) C inG5 tyX5 tyX5_ok (wm 147 rfl rfl) (wm 148 rfl rfl) (wm 6 rfl rfl) rfl [.null, .null, .int 0] (fun j hj => by have := co_dec_5 j hj; exact this) (by decide) (by decide) dX9_init_27 rfl (fun q27_23 => ?_)
  refine w_dup (pc2 := 31) C dX9_init_30 rfl rfl ?_
  refine w_ctor (pc2 := 34) (w1 := [_, _, _, _, _, _, _, _, _, _, _, _, _, _, _, _, _, _, _, _, _, _, _, _]) (q := q27_23) C (fun sz => mi5 (xl X) Λ q27_23 sz) rfl (wm 149 rfl rfl) (wm 150 rfl rfl) (wm 6 rfl rfl) (wm 151 rfl rfl) ⟨by decide +kernel, by decide +kernel⟩ ⟨Nat.le_of_ble_eq_true rfl, Nat.le_of_ble_eq_true rfl⟩ (Nat.le_of_ble_eq_true rfl) ⟨Nat.le_of_ble_eq_true rfl, Nat.le_of_ble_eq_true rfl⟩ dX9_init_31 rfl (fun wc hwc => ?_)
  obtain ⟨q6_q27_23, q14_q27_23, f26_q27_23, pq27_23_0, rfl⟩ := hwc
  refine w_ws (ws2 := [(_, _), (_, _), (_, _), (_, _), (_, _), (_, _), (_, _), (_, _), (_, _), (_, _), (_, _), (_, _), (_, _), (_, _), (_, _), (_, _), (_, _), (_, _), (_, _), (_, _), (_, _), (_, _), (_, _), (_, _), (_, _), (_, _), (_, _)]) rfl ?_
  refine w_putF (pc2 := 37) (ws2 := [(_, _), (_, _), (_, _), (_, _), (_, _), (_, _), (_, _), (_, _), (_, _), (_, _), (_, _), (_, _), (_, _), (_, _), (_, _), (_, _), (_, _), (_, _), (_, _), (_, _), (_, _), (_, _), (_, _), (_, _), (_, _), (_, _), (_, _)]) (ty := (.object "SunRows$Strings")) (fs := [_, _, _, _, _, _, _, _, _, _]) C hin inG9 tyX9 tyX9_ok nmX9 0 rfl rfl 2 (by decide) rfl rfl lf_X9_26 rfl (by decide +kernel) rfl rfl (by decide : 2 < 10) rfl dX9_init_34 rfl ?_
  refine w_aload_n (pc2 := 38) C 0 dX9_init_37 rfl rfl ?_
  refine w_new (pc2 := 41) (ci := 8) C inG8 tyX8 tyX8_ok (wm 165 rfl rfl) (wm 166 rfl rfl) (wm 7 rfl rfl) rfl [.null, .null, .int 0, .int 0, .int 0] (fun j hj => by have := co_dec_8 j hj; exact this) (by decide) (by decide) dX9_init_38 rfl (fun q38_26 => ?_)
  refine w_dup (pc2 := 42) C dX9_init_41 rfl rfl ?_
  refine w_ctor (pc2 := 45) (w1 := [_, _, _, _, _, _, _, _, _, _, _, _, _, _, _, _, _, _, _, _, _, _, _, _, _, _, _]) (q := q38_26) C (fun sz => mi8 (xl X) Λ q38_26 sz) rfl (wm 167 rfl rfl) (wm 168 rfl rfl) (wm 7 rfl rfl) (wm 169 rfl rfl) ⟨by decide +kernel, by decide +kernel⟩ ⟨Nat.le_of_ble_eq_true rfl, Nat.le_of_ble_eq_true rfl⟩ (Nat.le_of_ble_eq_true rfl) ⟨Nat.le_of_ble_eq_true rfl, Nat.le_of_ble_eq_true rfl⟩ dX9_init_42 rfl (fun wc hwc => ?_)
  obtain ⟨q7_q38_26, q15_q38_26, f38_q38_26, pq38_26_0, rfl⟩ := hwc
  refine w_ws (ws2 := [(_, _), (_, _), (_, _), (_, _), (_, _), (_, _), (_, _), (_, _), (_, _), (_, _), (_, _), (_, _), (_, _), (_, _), (_, _), (_, _), (_, _), (_, _), (_, _), (_, _), (_, _), (_, _), (_, _), (_, _), (_, _), (_, _), (_, _), (_, _), (_, _), (_, _)]) rfl ?_
  refine w_putF (pc2 := 48) (ws2 := [(_, _), (_, _), (_, _), (_, _), (_, _), (_, _), (_, _), (_, _), (_, _), (_, _), (_, _), (_, _), (_, _), (_, _), (_, _), (_, _), (_, _), (_, _), (_, _), (_, _), (_, _), (_, _), (_, _), (_, _), (_, _), (_, _), (_, _), (_, _), (_, _), (_, _)]) (ty := (.object "SunRows$Weather")) (fs := [_, _, _, _, _, _, _, _, _, _]) C hin inG9 tyX9 tyX9_ok nmX9 0 rfl rfl 3 (by decide) rfl rfl lf_X9_33 rfl (by decide +kernel) rfl rfl (by decide : 3 < 10) rfl dX9_init_45 rfl ?_
  refine w_aload_n (pc2 := 49) C 0 dX9_init_48 rfl rfl ?_
  refine w_new (pc2 := 52) (ci := 1) C inG1 tyX1 tyX1_ok (wm 191 rfl rfl) (wm 192 rfl rfl) (wm 8 rfl rfl) rfl [.null, .null, .int 0, .int 0, .int 0] (fun j hj => by have := co_dec_1 j hj; exact this) (by decide) (by decide) dX9_init_49 rfl (fun q49_29 => ?_)
  refine w_dup (pc2 := 53) C dX9_init_52 rfl rfl ?_
  refine w_ctorN (pc2 := 56) (w1 := [_, _, _, _, _, _, _, _, _, _, _, _, _, _, _, _, _, _, _, _, _, _, _, _, _, _, _, _, _, _]) (q := q49_29) C (fun sz => mi1 (xl X) Λ q49_29 sz) rfl (by decide +kernel) (wm 194 rfl rfl) (wm 8 rfl rfl) (wm 195 rfl rfl) ⟨by decide +kernel, by decide +kernel⟩ ⟨Nat.le_of_ble_eq_true rfl, Nat.le_of_ble_eq_true rfl⟩ (Nat.le_of_ble_eq_true rfl) ⟨Nat.le_of_ble_eq_true rfl, Nat.le_of_ble_eq_true rfl⟩ dX9_init_53 rfl (fun wc hwc => ?_)
  obtain ⟨q7_q49_29, q15_q49_29, rfl⟩ := hwc
  refine w_ws (ws2 := [(_, _), (_, _), (_, _), (_, _), (_, _), (_, _), (_, _), (_, _), (_, _), (_, _), (_, _), (_, _), (_, _), (_, _), (_, _), (_, _), (_, _), (_, _), (_, _), (_, _), (_, _), (_, _), (_, _), (_, _), (_, _), (_, _), (_, _), (_, _), (_, _), (_, _), (_, _), (_, _), (_, _)]) rfl ?_
  refine w_putF (pc2 := 59) (ws2 := [(_, _), (_, _), (_, _), (_, _), (_, _), (_, _), (_, _), (_, _), (_, _), (_, _), (_, _), (_, _), (_, _), (_, _), (_, _), (_, _), (_, _), (_, _), (_, _), (_, _), (_, _), (_, _), (_, _), (_, _), (_, _), (_, _), (_, _), (_, _), (_, _), (_, _), (_, _), (_, _), (_, _)]) (ty := (.object "SunRows$Ledger")) (fs := [_, _, _, _, _, _, _, _, _, _]) C hin inG9 tyX9 tyX9_ok nmX9 0 rfl rfl 4 (by decide) rfl rfl lf_X9_40 rfl (by decide +kernel) rfl rfl (by decide : 4 < 10) rfl dX9_init_56 rfl ?_
  refine w_aload_n (pc2 := 60) C 0 dX9_init_59 rfl rfl ?_
  refine w_new (pc2 := 63) (ci := 7) C inG7 tyX7 tyX7_ok (wm 219 rfl rfl) (wm 220 rfl rfl) (wm 9 rfl rfl) rfl [.int 0, .long 0] (fun j hj => by have := co_dec_7 j hj; exact this) (by decide) (by decide) dX9_init_60 rfl (fun q60_32 => ?_)
  refine w_dup (pc2 := 64) C dX9_init_63 rfl rfl ?_
  refine w_ctorN (pc2 := 67) (w1 := [_, _, _, _, _, _, _, _, _, _, _, _, _, _, _, _, _, _, _, _, _, _, _, _, _, _, _, _, _, _, _, _, _]) (q := q60_32) C (fun sz => mi7 (xl X) Λ q60_32 sz) rfl (by decide +kernel) (wm 222 rfl rfl) (wm 9 rfl rfl) (wm 223 rfl rfl) ⟨by decide +kernel, by decide +kernel⟩ ⟨Nat.le_of_ble_eq_true rfl, Nat.le_of_ble_eq_true rfl⟩ (Nat.le_of_ble_eq_true rfl) ⟨Nat.le_of_ble_eq_true rfl, Nat.le_of_ble_eq_true rfl⟩ dX9_init_64 rfl (fun wc hwc => ?_)
  obtain rfl := hwc
  refine w_ws (ws2 := [(_, _), (_, _), (_, _), (_, _), (_, _), (_, _), (_, _), (_, _), (_, _), (_, _), (_, _), (_, _), (_, _), (_, _), (_, _), (_, _), (_, _), (_, _), (_, _), (_, _), (_, _), (_, _), (_, _), (_, _), (_, _), (_, _), (_, _), (_, _), (_, _), (_, _), (_, _), (_, _), (_, _), (_, _)]) rfl ?_
  refine w_putF (pc2 := 70) (ws2 := [(_, _), (_, _), (_, _), (_, _), (_, _), (_, _), (_, _), (_, _), (_, _), (_, _), (_, _), (_, _), (_, _), (_, _), (_, _), (_, _), (_, _), (_, _), (_, _), (_, _), (_, _), (_, _), (_, _), (_, _), (_, _), (_, _), (_, _), (_, _), (_, _), (_, _), (_, _), (_, _), (_, _), (_, _)]) (ty := (.object "SunRows$Washing")) (fs := [_, _, _, _, _, _, _, _, _, _]) C hin inG9 tyX9 tyX9_ok nmX9 0 rfl rfl 5 (by decide) rfl rfl lf_X9_47 rfl (by decide +kernel) rfl rfl (by decide : 5 < 10) rfl dX9_init_67 rfl ?_
  refine w_aload_n (pc2 := 71) C 0 dX9_init_70 rfl rfl ?_
  refine w_new (pc2 := 74) (ci := 6) C inG6 tyX6 tyX6_ok (wm 234 rfl rfl) (wm 235 rfl rfl) (wm 10 rfl rfl) rfl [.null, .int 0] (fun j hj => by have := co_dec_6 j hj; exact this) (by decide) (by decide) dX9_init_71 rfl (fun q71_33 => ?_)
  refine w_dup (pc2 := 75) C dX9_init_74 rfl rfl ?_
  refine w_ctorN (pc2 := 78) (w1 := [_, _, _, _, _, _, _, _, _, _, _, _, _, _, _, _, _, _, _, _, _, _, _, _, _, _, _, _, _, _, _, _, _, _]) (q := q71_33) C (fun sz => mi6 (xl X) Λ q71_33 sz) rfl (by decide +kernel) (wm 237 rfl rfl) (wm 10 rfl rfl) (wm 238 rfl rfl) ⟨by decide +kernel, by decide +kernel⟩ ⟨Nat.le_of_ble_eq_true rfl, Nat.le_of_ble_eq_true rfl⟩ (Nat.le_of_ble_eq_true rfl) ⟨Nat.le_of_ble_eq_true rfl, Nat.le_of_ble_eq_true rfl⟩ dX9_init_75 rfl (fun wc hwc => ?_)
  obtain ⟨q7_q71_33, rfl⟩ := hwc
  refine w_ws (ws2 := [(_, _), (_, _), (_, _), (_, _), (_, _), (_, _), (_, _), (_, _), (_, _), (_, _), (_, _), (_, _), (_, _), (_, _), (_, _), (_, _), (_, _), (_, _), (_, _), (_, _), (_, _), (_, _), (_, _), (_, _), (_, _), (_, _), (_, _), (_, _), (_, _), (_, _), (_, _), (_, _), (_, _), (_, _), (_, _), (_, _)]) rfl ?_
  refine w_putF (pc2 := 81) (ws2 := [(_, _), (_, _), (_, _), (_, _), (_, _), (_, _), (_, _), (_, _), (_, _), (_, _), (_, _), (_, _), (_, _), (_, _), (_, _), (_, _), (_, _), (_, _), (_, _), (_, _), (_, _), (_, _), (_, _), (_, _), (_, _), (_, _), (_, _), (_, _), (_, _), (_, _), (_, _), (_, _), (_, _), (_, _), (_, _), (_, _)]) (ty := (.object "SunRows$Tape")) (fs := [_, _, _, _, _, _, _, _, _, _]) C hin inG9 tyX9 tyX9_ok nmX9 0 rfl rfl 6 (by decide) rfl rfl lf_X9_54 rfl (by decide +kernel) rfl rfl (by decide : 6 < 10) rfl dX9_init_78 rfl ?_
  refine w_aload_n (pc2 := 82) C 0 dX9_init_81 rfl rfl ?_
  refine w_iconst (pc2 := 83) C dX9_init_82 ki_5 rfl ?_
  refine w_newI (pc2 := 85) C wa_I 5 (by decide +kernel) (by decide +kernel) (by decide) (by decide) (by decide) dX9_init_83 rfl (fun q83 => ?_)
  refine w_putF (pc2 := 88) (ws2 := [(_, _), (_, _), (_, _), (_, _), (_, _), (_, _), (_, _), (_, _), (_, _), (_, _), (_, _), (_, _), (_, _), (_, _), (_, _), (_, _), (_, _), (_, _), (_, _), (_, _), (_, _), (_, _), (_, _), (_, _), (_, _), (_, _), (_, _), (_, _), (_, _), (_, _), (_, _), (_, _), (_, _), (_, _), (_, _), (_, _), (_, _)]) (ty := (.array .int)) (fs := [_, _, _, _, _, _, _, _, _, _]) C hin inG9 tyX9 tyX9_ok nmX9 0 rfl rfl 7 (by decide) rfl rfl lf_X9_58 rfl (by decide +kernel) rfl rfl (by decide : 7 < 10) rfl dX9_init_85 rfl ?_
  refine w_aload_n (pc2 := 89) C 0 dX9_init_88 rfl rfl ?_
  refine w_iconst (pc2 := 90) C dX9_init_89 ki_0 rfl ?_
  refine w_put (pc2 := 93) (ws2 := [(_, _), (_, _), (_, _), (_, _), (_, _), (_, _), (_, _), (_, _), (_, _), (_, _), (_, _), (_, _), (_, _), (_, _), (_, _), (_, _), (_, _), (_, _), (_, _), (_, _), (_, _), (_, _), (_, _), (_, _), (_, _), (_, _), (_, _), (_, _), (_, _), (_, _), (_, _), (_, _), (_, _), (_, _), (_, _), (_, _), (_, _)]) (ty := .int) (fs := [_, _, _, _, _, _, _, _, _, _]) C inG9 tyX9 tyX9_ok nmX9 0 rfl rfl 8 (by decide) rfl lf_X9_62 rfl (by decide +kernel) rfl rfl (by decide : 8 < 10) rfl dX9_init_90 rfl ?_
  refine w_aload_n (pc2 := 94) C 0 dX9_init_93 rfl rfl ?_
  refine w_iconst (pc2 := 95) C dX9_init_94 ki_0 rfl ?_
  refine w_put (pc2 := 98) (ws2 := [(_, _), (_, _), (_, _), (_, _), (_, _), (_, _), (_, _), (_, _), (_, _), (_, _), (_, _), (_, _), (_, _), (_, _), (_, _), (_, _), (_, _), (_, _), (_, _), (_, _), (_, _), (_, _), (_, _), (_, _), (_, _), (_, _), (_, _), (_, _), (_, _), (_, _), (_, _), (_, _), (_, _), (_, _), (_, _), (_, _), (_, _)]) (ty := .int) (fs := [_, _, _, _, _, _, _, _, _, _]) C inG9 tyX9 tyX9_ok nmX9 0 rfl rfl 9 (by decide) rfl lf_X9_66 rfl (by decide +kernel) rfl rfl (by decide : 9 < 10) rfl dX9_init_95 rfl ?_
  exact w_ret C hr hQ ⟨q5_0, q7_q5_0, q14_1_q5_0, q7_q14_1_q5_0, q15_q14_1_q5_0, q23_q14_1_q5_0, q31_q14_1_q5_0, q27_q5_0, q35_q5_0, q43_q5_0, q71_9_q5_0, q71_10_q5_0, q71_11_q5_0, q71_12_q5_0, q71_13_q5_0, q71_14_q5_0, q71_15_q5_0, q71_16_q5_0, q71_17_q5_0, q71_18_q5_0, g0_q5_0, q16_20, q7_q16_20, q15_q16_20, q27_23, q6_q27_23, q14_q27_23, f26_q27_23, q38_26, q7_q38_26, q15_q38_26, f38_q38_26, q49_29, q7_q49_29, q15_q49_29, q60_32, q71_33, q7_q71_33, q83, pq5_0_0, pq27_23_0, pq38_26_0, rfl⟩ dX9_init_98
set_option maxHeartbeats 4000000 in
set_option maxRecDepth 100000 in
theorem fl10_153 {X : CX} {Λ : LY} {h0 sz : Nat} (C : OL X Λ (AI h0 sz) cX10_init 2 RX10 1 12 17 272) {q7 q15 q23 q31 q39 q47 q55 q63 q71 q79 q87 q94 q108 q116 q124 q132 q146 : Nat} (kk : ∀ f : Nat → Int32, (∀ i : Nat, i < 24 → f i = (-1 : Int32)) → VL X Λ (AI h0 sz) 2 172 [(0, .ref h0)] [] [(h0, .inr (10, [.int 0, .ref q7, .ref q15, .ref q23, .ref q31, .ref q39, .ref q47, .ref q55, .ref q63, .ref q71, .ref q79, .ref q87, .ref q94, .int (50 : Int32), .int 0, .int 0, .int 0, .int 0, .int 0, .int 0, .ref q108, .ref q116, .int 0, .ref q124, .ref q132, .int (99 : Int32), .ref q146, .int 0])), (q7, .inl (cI Λ, 10, .inl (fun _ => 0))), (q15, .inl (cI Λ, 10, .inl (fun _ => 0))), (q23, .inl (cI Λ, 10, .inl (fun _ => 0))), (q31, .inl (cI Λ, 10, .inl (fun _ => 0))), (q39, .inl (cI Λ, 10, .inl (fun _ => 0))), (q47, .inl (cI Λ, 10, .inl (fun _ => 0))), (q55, .inl (cI Λ, 10, .inl (fun _ => 0))), (q63, .inl (cI Λ, 24, .inl (fun _ => 0))), (q71, .inl (cI Λ, 24, .inl (fun _ => 0))), (q79, .inl (cI Λ, 24, .inl f)), (q87, .inl (cZ Λ, 24, .inl (fun _ => 0))), (q94, .inl (cI Λ, 4, .inl (fun _ => 0))), (q108, .inl (cJ Λ, 8, .inr (.inl (fun _ => 0)))), (q116, .inl (cJ Λ, 6, .inr (.inl (fun _ => 0)))), (q124, .inl (cI Λ, 72, .inl (fun _ => 0))), (q132, .inl (cI Λ, 6, .inl (fun _ => 0))), (q146, .inl (cJ Λ, 10, .inr (.inl (fun _ => 0))))] 17 272) : ∀ (n : Nat) (j : Int32) (f : Nat → Int32), UP 24 j n → (∀ i : Nat, (i : Int) < j.toInt → f i = (-1 : Int32)) → VL X Λ (AI h0 sz) 2 153 [(1, .int j), (0, .ref h0)] [] [(h0, .inr (10, [.int 0, .ref q7, .ref q15, .ref q23, .ref q31, .ref q39, .ref q47, .ref q55, .ref q63, .ref q71, .ref q79, .ref q87, .ref q94, .int (50 : Int32), .int 0, .int 0, .int 0, .int 0, .int 0, .int 0, .ref q108, .ref q116, .int 0, .ref q124, .ref q132, .int (99 : Int32), .ref q146, .int 0])), (q7, .inl (cI Λ, 10, .inl (fun _ => 0))), (q15, .inl (cI Λ, 10, .inl (fun _ => 0))), (q23, .inl (cI Λ, 10, .inl (fun _ => 0))), (q31, .inl (cI Λ, 10, .inl (fun _ => 0))), (q39, .inl (cI Λ, 10, .inl (fun _ => 0))), (q47, .inl (cI Λ, 10, .inl (fun _ => 0))), (q55, .inl (cI Λ, 10, .inl (fun _ => 0))), (q63, .inl (cI Λ, 24, .inl (fun _ => 0))), (q71, .inl (cI Λ, 24, .inl (fun _ => 0))), (q79, .inl (cI Λ, 24, .inl f)), (q87, .inl (cZ Λ, 24, .inl (fun _ => 0))), (q94, .inl (cI Λ, 4, .inl (fun _ => 0))), (q108, .inl (cJ Λ, 8, .inr (.inl (fun _ => 0)))), (q116, .inl (cJ Λ, 6, .inr (.inl (fun _ => 0)))), (q124, .inl (cI Λ, 72, .inl (fun _ => 0))), (q132, .inl (cI Λ, 6, .inl (fun _ => 0))), (q146, .inl (cJ Λ, 10, .inr (.inl (fun _ => 0))))] 17 272 := by
  intro n
  induction n with
  | zero => intro j f hu; exact absurd hu (fun h => h.z)
  | succ n ih =>
    intro j f hu hf
    refine w_iload_n (pc2 := 154) C 0 dX10_init_153 rfl rfl ?_
    refine w_bipush (pc2 := 156) C dX10_init_154 kb_24 rfl ?_
    refine w_icmpge (pc2 := 172) (pc3 := 159) C dX10_init_156 rfl rfl (fun h => ?_) (fun h => ?_)
    · have t := t_le h lit_24 rfl
      exact w_lv [1] rfl (kk f (fun i hi => hf i (by omega)))
    · have hi := hu.in h (by rw [lit_24]; decide)
      refine w_aload_n (pc2 := 160) C 1 dX10_init_159 rfl rfl ?_
      refine w_get (pc2 := 163) C inG10 0 rfl rfl 10 (by decide) rfl lf_X10_37 rfl dX10_init_160 rfl ?_
      refine w_iload_n (pc2 := 164) C 0 dX10_init_163 rfl rfl ?_
      refine w_iconst (pc2 := 165) C dX10_init_164 ki_m1 rfl ?_
      refine w_iast (pc2 := 166) (ws2 := [(_, _), (_, _), (_, _), (_, _), (_, _), (_, _), (_, _), (_, _), (_, _), (_, _), (_, _), (_, _), (_, _), (_, _), (_, _), (_, _), (_, _), (_, _)]) C 10 rfl hi rfl dX10_init_165 rfl ?_
      refine w_iinc (pc2 := 169) (v := j + (1 : Int32)) (lv2 := [(1, _), (0, _)]) C 0 dX10_init_166 rfl (by rw [ki_1]) (by decide) rfl rfl ?_
      refine w_goto (pc2 := 153) C dX10_init_169 rfl ?_
      exact ih _ _ (hu.step h (by rw [lit_24]; decide) (by decide)) (fill_step hf hi (by decide))
set_option maxHeartbeats 4000000 in
set_option maxRecDepth 100000 in
theorem fl10_174 {X : CX} {Λ : LY} {h0 sz : Nat} (C : OL X Λ (AI h0 sz) cX10_init 2 RX10 1 12 17 272) {q7 q15 q23 q31 q39 q47 q55 q63 q71 q79 q87 q94 q108 q116 q124 q132 q146 : Nat} {f153 : Nat → Int32} (kk : ∀ f : Nat → Int32, (∀ i : Nat, i < 4 → f i = (1000000 : Int32)) → VL X Λ (AI h0 sz) 2 193 [(0, .ref h0)] [] [(h0, .inr (10, [.int 0, .ref q7, .ref q15, .ref q23, .ref q31, .ref q39, .ref q47, .ref q55, .ref q63, .ref q71, .ref q79, .ref q87, .ref q94, .int (50 : Int32), .int 0, .int 0, .int 0, .int 0, .int 0, .int 0, .ref q108, .ref q116, .int 0, .ref q124, .ref q132, .int (99 : Int32), .ref q146, .int 0])), (q7, .inl (cI Λ, 10, .inl (fun _ => 0))), (q15, .inl (cI Λ, 10, .inl (fun _ => 0))), (q23, .inl (cI Λ, 10, .inl (fun _ => 0))), (q31, .inl (cI Λ, 10, .inl (fun _ => 0))), (q39, .inl (cI Λ, 10, .inl (fun _ => 0))), (q47, .inl (cI Λ, 10, .inl (fun _ => 0))), (q55, .inl (cI Λ, 10, .inl (fun _ => 0))), (q63, .inl (cI Λ, 24, .inl (fun _ => 0))), (q71, .inl (cI Λ, 24, .inl (fun _ => 0))), (q79, .inl (cI Λ, 24, .inl f153)), (q87, .inl (cZ Λ, 24, .inl (fun _ => 0))), (q94, .inl (cI Λ, 4, .inl f)), (q108, .inl (cJ Λ, 8, .inr (.inl (fun _ => 0)))), (q116, .inl (cJ Λ, 6, .inr (.inl (fun _ => 0)))), (q124, .inl (cI Λ, 72, .inl (fun _ => 0))), (q132, .inl (cI Λ, 6, .inl (fun _ => 0))), (q146, .inl (cJ Λ, 10, .inr (.inl (fun _ => 0))))] 17 272) : ∀ (n : Nat) (j : Int32) (f : Nat → Int32), UP 4 j n → (∀ i : Nat, (i : Int) < j.toInt → f i = (1000000 : Int32)) → VL X Λ (AI h0 sz) 2 174 [(1, .int j), (0, .ref h0)] [] [(h0, .inr (10, [.int 0, .ref q7, .ref q15, .ref q23, .ref q31, .ref q39, .ref q47, .ref q55, .ref q63, .ref q71, .ref q79, .ref q87, .ref q94, .int (50 : Int32), .int 0, .int 0, .int 0, .int 0, .int 0, .int 0, .ref q108, .ref q116, .int 0, .ref q124, .ref q132, .int (99 : Int32), .ref q146, .int 0])), (q7, .inl (cI Λ, 10, .inl (fun _ => 0))), (q15, .inl (cI Λ, 10, .inl (fun _ => 0))), (q23, .inl (cI Λ, 10, .inl (fun _ => 0))), (q31, .inl (cI Λ, 10, .inl (fun _ => 0))), (q39, .inl (cI Λ, 10, .inl (fun _ => 0))), (q47, .inl (cI Λ, 10, .inl (fun _ => 0))), (q55, .inl (cI Λ, 10, .inl (fun _ => 0))), (q63, .inl (cI Λ, 24, .inl (fun _ => 0))), (q71, .inl (cI Λ, 24, .inl (fun _ => 0))), (q79, .inl (cI Λ, 24, .inl f153)), (q87, .inl (cZ Λ, 24, .inl (fun _ => 0))), (q94, .inl (cI Λ, 4, .inl f)), (q108, .inl (cJ Λ, 8, .inr (.inl (fun _ => 0)))), (q116, .inl (cJ Λ, 6, .inr (.inl (fun _ => 0)))), (q124, .inl (cI Λ, 72, .inl (fun _ => 0))), (q132, .inl (cI Λ, 6, .inl (fun _ => 0))), (q146, .inl (cJ Λ, 10, .inr (.inl (fun _ => 0))))] 17 272 := by
  intro n
  induction n with
  | zero => intro j f hu; exact absurd hu (fun h => h.z)
  | succ n ih =>
    intro j f hu hf
    refine w_iload_n (pc2 := 175) C 0 dX10_init_174 rfl rfl ?_
    refine w_iconst (pc2 := 176) C dX10_init_175 ki_4 rfl ?_
    refine w_icmpge (pc2 := 193) (pc3 := 179) C dX10_init_176 rfl rfl (fun h => ?_) (fun h => ?_)
    · have t := t_le h lit_4 rfl
      exact w_lv [1] rfl (kk f (fun i hi => hf i (by omega)))
    · have hi := hu.in h (by rw [lit_4]; decide)
      refine w_aload_n (pc2 := 180) C 1 dX10_init_179 rfl rfl ?_
      refine w_get (pc2 := 183) C inG10 0 rfl rfl 12 (by decide) rfl lf_X10_44 rfl dX10_init_180 rfl ?_
      refine w_iload_n (pc2 := 184) C 0 dX10_init_183 rfl rfl ?_
      refine w_ldc (pc2 := 186) C lc_X10_70 dX10_init_184 rfl ?_
      refine w_iast (pc2 := 187) (ws2 := [(_, _), (_, _), (_, _), (_, _), (_, _), (_, _), (_, _), (_, _), (_, _), (_, _), (_, _), (_, _), (_, _), (_, _), (_, _), (_, _), (_, _), (_, _)]) C 12 rfl hi rfl dX10_init_186 rfl ?_
      refine w_iinc (pc2 := 190) (v := j + (1 : Int32)) (lv2 := [(1, _), (0, _)]) C 0 dX10_init_187 rfl (by rw [ki_1]) (by decide) rfl rfl ?_
      refine w_goto (pc2 := 174) C dX10_init_190 rfl ?_
      exact ih _ _ (hu.step h (by rw [lit_4]; decide) (by decide)) (fill_step hf hi (by decide))
set_option maxHeartbeats 4000000 in
set_option maxRecDepth 100000 in
theorem mi10 (l : Launch) (Λ : LY) (h0 sz : Nat) : CI l Λ yX10_init cX10_init 2 1 12 17 272 h0 sz (.inr (10, [.int 0, .null, .null, .null, .null, .null, .null, .null, .null, .null, .null, .null, .null, .int 0, .int 0, .int 0, .int 0, .int 0, .int 0, .int 0, .null, .null, .int 0, .null, .null, .int 0, .null, .int 0])) (fun ws => ∃ (q7 : Nat) (q15 : Nat) (q23 : Nat) (q31 : Nat) (q39 : Nat) (q47 : Nat) (q55 : Nat) (q63 : Nat) (q71 : Nat) (q79 : Nat) (q87 : Nat) (q94 : Nat) (q108 : Nat) (q116 : Nat) (q124 : Nat) (q132 : Nat) (q146 : Nat) (f153 : Nat → Int32) (f174 : Nat → Int32), (∀ i : Nat, i < 24 → f153 i = (-1 : Int32)) ∧ (∀ i : Nat, i < 4 → f174 i = (1000000 : Int32)) ∧ ws = [(h0, .inr (10, [.int 0, .ref q7, .ref q15, .ref q23, .ref q31, .ref q39, .ref q47, .ref q55, .ref q63, .ref q71, .ref q79, .ref q87, .ref q94, .int (50 : Int32), .int 0, .int 0, .int 0, .int 0, .int 0, .int 0, .ref q108, .ref q116, .int 0, .ref q124, .ref q132, .int (99 : Int32), .ref q146, .int 0])), (q7, .inl (cI Λ, 10, .inl (fun _ => 0))), (q15, .inl (cI Λ, 10, .inl (fun _ => 0))), (q23, .inl (cI Λ, 10, .inl (fun _ => 0))), (q31, .inl (cI Λ, 10, .inl (fun _ => 0))), (q39, .inl (cI Λ, 10, .inl (fun _ => 0))), (q47, .inl (cI Λ, 10, .inl (fun _ => 0))), (q55, .inl (cI Λ, 10, .inl (fun _ => 0))), (q63, .inl (cI Λ, 24, .inl (fun _ => 0))), (q71, .inl (cI Λ, 24, .inl (fun _ => 0))), (q79, .inl (cI Λ, 24, .inl f153)), (q87, .inl (cZ Λ, 24, .inl (fun _ => 0))), (q94, .inl (cI Λ, 4, .inl f174)), (q108, .inl (cJ Λ, 8, .inr (.inl (fun _ => 0)))), (q116, .inl (cJ Λ, 6, .inr (.inl (fun _ => 0)))), (q124, .inl (cI Λ, 72, .inl (fun _ => 0))), (q132, .inl (cI Λ, 6, .inl (fun _ => 0))), (q146, .inl (cJ Λ, 10, .inr (.inl (fun _ => 0))))]) := by
  refine CI_of (by decide +kernel) (by decide +kernel) (Nat.le_of_ble_eq_true rfl) ?_
  intro X hX C hin hr hQ
  refine w_aload_n (pc2 := 1) C 0 dX10_init_0 rfl rfl ?_
  refine w_objInit (pc2 := 4) C (wm 682 rfl rfl) wo_i wo_c (by decide) (Nat.le_of_ble_eq_true rfl) dX10_init_1 rfl ?_
  refine w_aload_n (pc2 := 5) C 0 dX10_init_4 rfl rfl ?_
  refine w_bipush (pc2 := 7) C dX10_init_5 kb_10 rfl ?_
  refine w_newI (pc2 := 9) C wa_I 10 (by decide +kernel) (by decide +kernel) (by decide) (by decide) (by decide) dX10_init_7 rfl (fun q7 => ?_)
  refine w_putF (pc2 := 12) (ws2 := [(_, _), (_, _)]) (ty := (.array .int)) (fs := [_, _, _, _, _, _, _, _, _, _, _, _, _, _, _, _, _, _, _, _, _, _, _, _, _, _, _, _]) C hin inG10 tyX10 tyX10_ok nmX10 0 rfl rfl 1 (by decide) rfl rfl lf_X10_9 rfl (by decide +kernel) rfl rfl (by decide : 1 < 28) rfl dX10_init_9 rfl ?_
  refine w_aload_n (pc2 := 13) C 0 dX10_init_12 rfl rfl ?_
  refine w_bipush (pc2 := 15) C dX10_init_13 kb_10 rfl ?_
  refine w_newI (pc2 := 17) C wa_I 10 (by decide +kernel) (by decide +kernel) (by decide) (by decide) (by decide) dX10_init_15 rfl (fun q15 => ?_)
  refine w_putF (pc2 := 20) (ws2 := [(_, _), (_, _), (_, _)]) (ty := (.array .int)) (fs := [_, _, _, _, _, _, _, _, _, _, _, _, _, _, _, _, _, _, _, _, _, _, _, _, _, _, _, _]) C hin inG10 tyX10 tyX10_ok nmX10 0 rfl rfl 2 (by decide) rfl rfl lf_X10_13 rfl (by decide +kernel) rfl rfl (by decide : 2 < 28) rfl dX10_init_17 rfl ?_
  refine w_aload_n (pc2 := 21) C 0 dX10_init_20 rfl rfl ?_
  refine w_bipush (pc2 := 23) C dX10_init_21 kb_10 rfl ?_
  refine w_newI (pc2 := 25) C wa_I 10 (by decide +kernel) (by decide +kernel) (by decide) (by decide) (by decide) dX10_init_23 rfl (fun q23 => ?_)
  refine w_putF (pc2 := 28) (ws2 := [(_, _), (_, _), (_, _), (_, _)]) (ty := (.array .int)) (fs := [_, _, _, _, _, _, _, _, _, _, _, _, _, _, _, _, _, _, _, _, _, _, _, _, _, _, _, _]) C hin inG10 tyX10 tyX10_ok nmX10 0 rfl rfl 3 (by decide) rfl rfl lf_X10_16 rfl (by decide +kernel) rfl rfl (by decide : 3 < 28) rfl dX10_init_25 rfl ?_
  refine w_aload_n (pc2 := 29) C 0 dX10_init_28 rfl rfl ?_
  refine w_bipush (pc2 := 31) C dX10_init_29 kb_10 rfl ?_
  refine w_newI (pc2 := 33) C wa_I 10 (by decide +kernel) (by decide +kernel) (by decide) (by decide) (by decide) dX10_init_31 rfl (fun q31 => ?_)
  refine w_putF (pc2 := 36) (ws2 := [(_, _), (_, _), (_, _), (_, _), (_, _)]) (ty := (.array .int)) (fs := [_, _, _, _, _, _, _, _, _, _, _, _, _, _, _, _, _, _, _, _, _, _, _, _, _, _, _, _]) C hin inG10 tyX10 tyX10_ok nmX10 0 rfl rfl 4 (by decide) rfl rfl lf_X10_19 rfl (by decide +kernel) rfl rfl (by decide : 4 < 28) rfl dX10_init_33 rfl ?_
  refine w_aload_n (pc2 := 37) C 0 dX10_init_36 rfl rfl ?_
  refine w_bipush (pc2 := 39) C dX10_init_37 kb_10 rfl ?_
  refine w_newI (pc2 := 41) C wa_I 10 (by decide +kernel) (by decide +kernel) (by decide) (by decide) (by decide) dX10_init_39 rfl (fun q39 => ?_)
  refine w_putF (pc2 := 44) (ws2 := [(_, _), (_, _), (_, _), (_, _), (_, _), (_, _)]) (ty := (.array .int)) (fs := [_, _, _, _, _, _, _, _, _, _, _, _, _, _, _, _, _, _, _, _, _, _, _, _, _, _, _, _]) C hin inG10 tyX10 tyX10_ok nmX10 0 rfl rfl 5 (by decide) rfl rfl lf_X10_22 rfl (by decide +kernel) rfl rfl (by decide : 5 < 28) rfl dX10_init_41 rfl ?_
  refine w_aload_n (pc2 := 45) C 0 dX10_init_44 rfl rfl ?_
  refine w_bipush (pc2 := 47) C dX10_init_45 kb_10 rfl ?_
  refine w_newI (pc2 := 49) C wa_I 10 (by decide +kernel) (by decide +kernel) (by decide) (by decide) (by decide) dX10_init_47 rfl (fun q47 => ?_)
  refine w_putF (pc2 := 52) (ws2 := [(_, _), (_, _), (_, _), (_, _), (_, _), (_, _), (_, _)]) (ty := (.array .int)) (fs := [_, _, _, _, _, _, _, _, _, _, _, _, _, _, _, _, _, _, _, _, _, _, _, _, _, _, _, _]) C hin inG10 tyX10 tyX10_ok nmX10 0 rfl rfl 6 (by decide) rfl rfl lf_X10_25 rfl (by decide +kernel) rfl rfl (by decide : 6 < 28) rfl dX10_init_49 rfl ?_
  refine w_aload_n (pc2 := 53) C 0 dX10_init_52 rfl rfl ?_
  refine w_bipush (pc2 := 55) C dX10_init_53 kb_10 rfl ?_
  refine w_newI (pc2 := 57) C wa_I 10 (by decide +kernel) (by decide +kernel) (by decide) (by decide) (by decide) dX10_init_55 rfl (fun q55 => ?_)
  refine w_putF (pc2 := 60) (ws2 := [(_, _), (_, _), (_, _), (_, _), (_, _), (_, _), (_, _), (_, _)]) (ty := (.array .int)) (fs := [_, _, _, _, _, _, _, _, _, _, _, _, _, _, _, _, _, _, _, _, _, _, _, _, _, _, _, _]) C hin inG10 tyX10 tyX10_ok nmX10 0 rfl rfl 7 (by decide) rfl rfl lf_X10_28 rfl (by decide +kernel) rfl rfl (by decide : 7 < 28) rfl dX10_init_57 rfl ?_
  refine w_aload_n (pc2 := 61) C 0 dX10_init_60 rfl rfl ?_
  refine w_bipush (pc2 := 63) C dX10_init_61 kb_24 rfl ?_
  refine w_newI (pc2 := 65) C wa_I 24 (by decide +kernel) (by decide +kernel) (by decide) (by decide) (by decide) dX10_init_63 rfl (fun q63 => ?_)
  refine w_putF (pc2 := 68) (ws2 := [(_, _), (_, _), (_, _), (_, _), (_, _), (_, _), (_, _), (_, _), (_, _)]) (ty := (.array .int)) (fs := [_, _, _, _, _, _, _, _, _, _, _, _, _, _, _, _, _, _, _, _, _, _, _, _, _, _, _, _]) C hin inG10 tyX10 tyX10_ok nmX10 0 rfl rfl 8 (by decide) rfl rfl lf_X10_31 rfl (by decide +kernel) rfl rfl (by decide : 8 < 28) rfl dX10_init_65 rfl ?_
  refine w_aload_n (pc2 := 69) C 0 dX10_init_68 rfl rfl ?_
  refine w_bipush (pc2 := 71) C dX10_init_69 kb_24 rfl ?_
  refine w_newI (pc2 := 73) C wa_I 24 (by decide +kernel) (by decide +kernel) (by decide) (by decide) (by decide) dX10_init_71 rfl (fun q71 => ?_)
  refine w_putF (pc2 := 76) (ws2 := [(_, _), (_, _), (_, _), (_, _), (_, _), (_, _), (_, _), (_, _), (_, _), (_, _)]) (ty := (.array .int)) (fs := [_, _, _, _, _, _, _, _, _, _, _, _, _, _, _, _, _, _, _, _, _, _, _, _, _, _, _, _]) C hin inG10 tyX10 tyX10_ok nmX10 0 rfl rfl 9 (by decide) rfl rfl lf_X10_34 rfl (by decide +kernel) rfl rfl (by decide : 9 < 28) rfl dX10_init_73 rfl ?_
  refine w_aload_n (pc2 := 77) C 0 dX10_init_76 rfl rfl ?_
  refine w_bipush (pc2 := 79) C dX10_init_77 kb_24 rfl ?_
  refine w_newI (pc2 := 81) C wa_I 24 (by decide +kernel) (by decide +kernel) (by decide) (by decide) (by decide) dX10_init_79 rfl (fun q79 => ?_)
  refine w_putF (pc2 := 84) (ws2 := [(_, _), (_, _), (_, _), (_, _), (_, _), (_, _), (_, _), (_, _), (_, _), (_, _), (_, _)]) (ty := (.array .int)) (fs := [_, _, _, _, _, _, _, _, _, _, _, _, _, _, _, _, _, _, _, _, _, _, _, _, _, _, _, _]) C hin inG10 tyX10 tyX10_ok nmX10 0 rfl rfl 10 (by decide) rfl rfl lf_X10_37 rfl (by decide +kernel) rfl rfl (by decide : 10 < 28) rfl dX10_init_81 rfl ?_
  refine w_aload_n (pc2 := 85) C 0 dX10_init_84 rfl rfl ?_
  refine w_bipush (pc2 := 87) C dX10_init_85 kb_24 rfl ?_
  refine w_newZ (pc2 := 89) C wa_Z 24 (by decide +kernel) (by decide +kernel) (by decide) (by decide) (by decide) dX10_init_87 rfl (fun q87 => ?_)
  refine w_putF (pc2 := 92) (ws2 := [(_, _), (_, _), (_, _), (_, _), (_, _), (_, _), (_, _), (_, _), (_, _), (_, _), (_, _), (_, _)]) (ty := (.array .boolean)) (fs := [_, _, _, _, _, _, _, _, _, _, _, _, _, _, _, _, _, _, _, _, _, _, _, _, _, _, _, _]) C hin inG10 tyX10 tyX10_ok nmX10 0 rfl rfl 11 (by decide) rfl rfl lf_X10_40 rfl (by decide +kernel) rfl rfl (by decide : 11 < 28) rfl dX10_init_89 rfl ?_
  refine w_aload_n (pc2 := 93) C 0 dX10_init_92 rfl rfl ?_
  refine w_iconst (pc2 := 94) C dX10_init_93 ki_4 rfl ?_
  refine w_newI (pc2 := 96) C wa_I 4 (by decide +kernel) (by decide +kernel) (by decide) (by decide) (by decide) dX10_init_94 rfl (fun q94 => ?_)
  refine w_putF (pc2 := 99) (ws2 := [(_, _), (_, _), (_, _), (_, _), (_, _), (_, _), (_, _), (_, _), (_, _), (_, _), (_, _), (_, _), (_, _)]) (ty := (.array .int)) (fs := [_, _, _, _, _, _, _, _, _, _, _, _, _, _, _, _, _, _, _, _, _, _, _, _, _, _, _, _]) C hin inG10 tyX10 tyX10_ok nmX10 0 rfl rfl 12 (by decide) rfl rfl lf_X10_44 rfl (by decide +kernel) rfl rfl (by decide : 12 < 28) rfl dX10_init_96 rfl ?_
  refine w_aload_n (pc2 := 100) C 0 dX10_init_99 rfl rfl ?_
  refine w_bipush (pc2 := 102) C dX10_init_100 kb_50 rfl ?_
  refine w_put (pc2 := 105) (ws2 := [(_, _), (_, _), (_, _), (_, _), (_, _), (_, _), (_, _), (_, _), (_, _), (_, _), (_, _), (_, _), (_, _)]) (ty := .int) (fs := [_, _, _, _, _, _, _, _, _, _, _, _, _, _, _, _, _, _, _, _, _, _, _, _, _, _, _, _]) C inG10 tyX10 tyX10_ok nmX10 0 rfl rfl 13 (by decide) rfl lf_X10_47 rfl (by decide +kernel) rfl rfl (by decide : 13 < 28) rfl dX10_init_102 rfl ?_
  refine w_aload_n (pc2 := 106) C 0 dX10_init_105 rfl rfl ?_
  refine w_bipush (pc2 := 108) C dX10_init_106 kb_8 rfl ?_
  refine w_newJ (pc2 := 110) C wa_J 8 (by decide +kernel) (by decide +kernel) (by decide) (by decide) (by decide) dX10_init_108 rfl (fun q108 => ?_)
  refine w_putF (pc2 := 113) (ws2 := [(_, _), (_, _), (_, _), (_, _), (_, _), (_, _), (_, _), (_, _), (_, _), (_, _), (_, _), (_, _), (_, _), (_, _)]) (ty := (.array .long)) (fs := [_, _, _, _, _, _, _, _, _, _, _, _, _, _, _, _, _, _, _, _, _, _, _, _, _, _, _, _]) C hin inG10 tyX10 tyX10_ok nmX10 0 rfl rfl 20 (by decide) rfl rfl lf_X10_51 rfl (by decide +kernel) rfl rfl (by decide : 20 < 28) rfl dX10_init_110 rfl ?_
  refine w_aload_n (pc2 := 114) C 0 dX10_init_113 rfl rfl ?_
  refine w_bipush (pc2 := 116) C dX10_init_114 kb_6 rfl ?_
  refine w_newJ (pc2 := 118) C wa_J 6 (by decide +kernel) (by decide +kernel) (by decide) (by decide) (by decide) dX10_init_116 rfl (fun q116 => ?_)
  refine w_putF (pc2 := 121) (ws2 := [(_, _), (_, _), (_, _), (_, _), (_, _), (_, _), (_, _), (_, _), (_, _), (_, _), (_, _), (_, _), (_, _), (_, _), (_, _)]) (ty := (.array .long)) (fs := [_, _, _, _, _, _, _, _, _, _, _, _, _, _, _, _, _, _, _, _, _, _, _, _, _, _, _, _]) C hin inG10 tyX10 tyX10_ok nmX10 0 rfl rfl 21 (by decide) rfl rfl lf_X10_55 rfl (by decide +kernel) rfl rfl (by decide : 21 < 28) rfl dX10_init_118 rfl ?_
  refine w_aload_n (pc2 := 122) C 0 dX10_init_121 rfl rfl ?_
  refine w_bipush (pc2 := 124) C dX10_init_122 kb_72 rfl ?_
  refine w_newI (pc2 := 126) C wa_I 72 (by decide +kernel) (by decide +kernel) (by decide) (by decide) (by decide) dX10_init_124 rfl (fun q124 => ?_)
  refine w_putF (pc2 := 129) (ws2 := [(_, _), (_, _), (_, _), (_, _), (_, _), (_, _), (_, _), (_, _), (_, _), (_, _), (_, _), (_, _), (_, _), (_, _), (_, _), (_, _)]) (ty := (.array .int)) (fs := [_, _, _, _, _, _, _, _, _, _, _, _, _, _, _, _, _, _, _, _, _, _, _, _, _, _, _, _]) C hin inG10 tyX10 tyX10_ok nmX10 0 rfl rfl 23 (by decide) rfl rfl lf_X10_58 rfl (by decide +kernel) rfl rfl (by decide : 23 < 28) rfl dX10_init_126 rfl ?_
  refine w_aload_n (pc2 := 130) C 0 dX10_init_129 rfl rfl ?_
  refine w_bipush (pc2 := 132) C dX10_init_130 kb_6 rfl ?_
  refine w_newI (pc2 := 134) C wa_I 6 (by decide +kernel) (by decide +kernel) (by decide) (by decide) (by decide) dX10_init_132 rfl (fun q132 => ?_)
  refine w_putF (pc2 := 137) (ws2 := [(_, _), (_, _), (_, _), (_, _), (_, _), (_, _), (_, _), (_, _), (_, _), (_, _), (_, _), (_, _), (_, _), (_, _), (_, _), (_, _), (_, _)]) (ty := (.array .int)) (fs := [_, _, _, _, _, _, _, _, _, _, _, _, _, _, _, _, _, _, _, _, _, _, _, _, _, _, _, _]) C hin inG10 tyX10 tyX10_ok nmX10 0 rfl rfl 24 (by decide) rfl rfl lf_X10_61 rfl (by decide +kernel) rfl rfl (by decide : 24 < 28) rfl dX10_init_134 rfl ?_
  refine w_aload_n (pc2 := 138) C 0 dX10_init_137 rfl rfl ?_
  refine w_bipush (pc2 := 140) C dX10_init_138 kb_99 rfl ?_
  refine w_put (pc2 := 143) (ws2 := [(_, _), (_, _), (_, _), (_, _), (_, _), (_, _), (_, _), (_, _), (_, _), (_, _), (_, _), (_, _), (_, _), (_, _), (_, _), (_, _), (_, _)]) (ty := .int) (fs := [_, _, _, _, _, _, _, _, _, _, _, _, _, _, _, _, _, _, _, _, _, _, _, _, _, _, _, _]) C inG10 tyX10 tyX10_ok nmX10 0 rfl rfl 25 (by decide) rfl lf_X10_64 rfl (by decide +kernel) rfl rfl (by decide : 25 < 28) rfl dX10_init_140 rfl ?_
  refine w_aload_n (pc2 := 144) C 0 dX10_init_143 rfl rfl ?_
  refine w_bipush (pc2 := 146) C dX10_init_144 kb_10 rfl ?_
  refine w_newJ (pc2 := 148) C wa_J 10 (by decide +kernel) (by decide +kernel) (by decide) (by decide) (by decide) dX10_init_146 rfl (fun q146 => ?_)
  refine w_putF (pc2 := 151) (ws2 := [(_, _), (_, _), (_, _), (_, _), (_, _), (_, _), (_, _), (_, _), (_, _), (_, _), (_, _), (_, _), (_, _), (_, _), (_, _), (_, _), (_, _), (_, _)]) (ty := (.array .long)) (fs := [_, _, _, _, _, _, _, _, _, _, _, _, _, _, _, _, _, _, _, _, _, _, _, _, _, _, _, _]) C hin inG10 tyX10 tyX10_ok nmX10 0 rfl rfl 26 (by decide) rfl rfl lf_X10_67 rfl (by decide +kernel) rfl rfl (by decide : 26 < 28) rfl dX10_init_148 rfl ?_
  refine w_iconst (pc2 := 152) C dX10_init_151 ki_0 rfl ?_
  refine w_istore_n (pc2 := 153) (lv2 := [(1, _), (0, _)]) C dX10_init_152 (by decide) rfl rfl ?_
  refine fl10_153 C (fun f153 pf153 => ?_) 25 (0 : Int32) (fun _ => 0) UP.start (fun i hi => by rw [lit_0] at hi; omega)
  refine w_iconst (pc2 := 173) C dX10_init_172 ki_0 rfl ?_
  refine w_istore_n (pc2 := 174) (lv2 := [(1, _), (0, _)]) C dX10_init_173 (by decide) rfl rfl ?_
  refine fl10_174 C (fun f174 pf174 => ?_) 5 (0 : Int32) (fun _ => 0) UP.start (fun i hi => by rw [lit_0] at hi; omega)
  exact w_ret C hr hQ ⟨q7, q15, q23, q31, q39, q47, q55, q63, q71, q79, q87, q94, q108, q116, q124, q132, q146, f153, f174, pf153, pf174, rfl⟩ dX10_init_193
