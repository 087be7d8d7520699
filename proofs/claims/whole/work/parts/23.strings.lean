def f5_insert_L (a1 : Int32) : Nat → St → Int32 → St
  | 0, σ, _ => (σ)
  | n + 1, σ, j => (if j ≤ (0 : Int32) then (uI (uA σ 5 (Int32.toNatClampNeg j) a1) 4 ((gI (uA σ 5 (Int32.toNatClampNeg j) a1) 4) + (1 : Int32))) else (if a1 ≤ (gA σ 5 (Int32.toNatClampNeg (j - (1 : Int32)))) then (uI (uA σ 5 (Int32.toNatClampNeg j) a1) 4 ((gI (uA σ 5 (Int32.toNatClampNeg j) a1) 4) + (1 : Int32))) else (f5_insert_L a1 n (uA σ 5 (Int32.toNatClampNeg j) (gA σ 5 (Int32.toNatClampNeg (j - (1 : Int32))))) (j + (-1 : Int32)))))
set_option maxHeartbeats 4000000 in
set_option maxRecDepth 100000 in
theorem bf5_insert_L {X : CX} {Λ : LY} (C : OK X Λ cX5_insert 3 RX5 0 0) {res : St} (E : EN X Λ none none res) (a1 : Int32)  : ∀ (n : Nat) (σ : St) (j : Int32), (hd : DN j n) → (f5_insert_L a1 n σ j) = res → VV X Λ 3 15 [(0, .ref (adr Λ 3)), (1, .int (a1)), (2, .int (j))] [] σ := by
  intro n
  induction n with
  | zero => intro σ j hd hres; exact absurd hd (fun h => h.z)
  | succ n ih =>
    intro σ j hd hres
    rw [f5_insert_L] at hres
    refine v_iload_n (pc2 := 16) C 2 dX5_insert_15 rfl rfl ?_
    refine v_ifle (pc2 := 51) (pc3 := 19) C dX5_insert_16 rfl rfl (fun h16 => ?_) (fun h16 => ?_)
    · have hres := (if_pos h16).symm.trans hres
      have t16 := t_le h16 rfl lit_0
      refine v_aload_n (pc2 := 52) C 0 dX5_insert_51 rfl rfl ?_
      refine vg_X5_ranked (pc2 := 55) C lf_X5_15 dX5_insert_52 rfl ?_
      refine v_iload_n (pc2 := 56) C 2 dX5_insert_55 rfl rfl ?_
      refine v_iload_n (pc2 := 57) C 1 dX5_insert_56 rfl rfl ?_
      refine as17 (pc2 := 58) C hd.in dX5_insert_57 rfl ?_
      refine v_aload_n (pc2 := 59) C 0 dX5_insert_58 rfl rfl ?_
      refine v_dup (pc2 := 60) C dX5_insert_59 rfl rfl ?_
      refine vg_X5_members (pc2 := 63) C lf_X5_18 dX5_insert_60 rfl ?_
      refine v_iconst (pc2 := 64) C dX5_insert_63 ki_1 rfl ?_
      refine v_iadd (pc2 := 65) C dX5_insert_64 rfl ?_
      refine vp_X5_members (pc2 := 68) C lf_X5_18 dX5_insert_65 rfl ?_
      exact r_vS C E hres dX5_insert_68
    · have hres := (if_neg h16).symm.trans hres
      have t16 := t_nle h16 rfl lit_0
      refine v_aload_n (pc2 := 20) C 0 dX5_insert_19 rfl rfl ?_
      refine vg_X5_ranked (pc2 := 23) C lf_X5_15 dX5_insert_20 rfl ?_
      refine v_iload_n (pc2 := 24) C 2 dX5_insert_23 rfl rfl ?_
      refine v_iconst (pc2 := 25) C dX5_insert_24 ki_1 rfl ?_
      refine v_isub (pc2 := 26) C dX5_insert_25 rfl ?_
      refine al17 (pc2 := 27) C (hd.pin h16) dX5_insert_26 rfl ?_
      refine v_iload_n (pc2 := 28) C 1 dX5_insert_27 rfl rfl ?_
      refine v_icmpge (pc2 := 51) (pc3 := 31) C dX5_insert_28 rfl rfl (fun h28 => ?_) (fun h28 => ?_)
      · have hres := (if_pos h28).symm.trans hres
        have t28 := t_le h28 rfl rfl
        refine v_aload_n (pc2 := 52) C 0 dX5_insert_51 rfl rfl ?_
        refine vg_X5_ranked (pc2 := 55) C lf_X5_15 dX5_insert_52 rfl ?_
        refine v_iload_n (pc2 := 56) C 2 dX5_insert_55 rfl rfl ?_
        refine v_iload_n (pc2 := 57) C 1 dX5_insert_56 rfl rfl ?_
        refine as17 (pc2 := 58) C hd.in dX5_insert_57 rfl ?_
        refine v_aload_n (pc2 := 59) C 0 dX5_insert_58 rfl rfl ?_
        refine v_dup (pc2 := 60) C dX5_insert_59 rfl rfl ?_
        refine vg_X5_members (pc2 := 63) C lf_X5_18 dX5_insert_60 rfl ?_
        refine v_iconst (pc2 := 64) C dX5_insert_63 ki_1 rfl ?_
        refine v_iadd (pc2 := 65) C dX5_insert_64 rfl ?_
        refine vp_X5_members (pc2 := 68) C lf_X5_18 dX5_insert_65 rfl ?_
        exact r_vS C E hres dX5_insert_68
      · have hres := (if_neg h28).symm.trans hres
        have t28 := t_nle h28 rfl rfl
        refine v_aload_n (pc2 := 32) C 0 dX5_insert_31 rfl rfl ?_
        refine vg_X5_ranked (pc2 := 35) C lf_X5_15 dX5_insert_32 rfl ?_
        refine v_iload_n (pc2 := 36) C 2 dX5_insert_35 rfl rfl ?_
        refine v_aload_n (pc2 := 37) C 0 dX5_insert_36 rfl rfl ?_
        refine vg_X5_ranked (pc2 := 40) C lf_X5_15 dX5_insert_37 rfl ?_
        refine v_iload_n (pc2 := 41) C 2 dX5_insert_40 rfl rfl ?_
        refine v_iconst (pc2 := 42) C dX5_insert_41 ki_1 rfl ?_
        refine v_isub (pc2 := 43) C dX5_insert_42 rfl ?_
        refine al17 (pc2 := 44) C (hd.pin h16) dX5_insert_43 rfl ?_
        refine as17 (pc2 := 45) C hd.in dX5_insert_44 rfl ?_
        refine v_iinc (pc2 := 48) (lv2 := [(2, _), (0, _), (1, _)]) C 2 dX5_insert_45 rfl ki_m1 (by decide) rfl rfl ?_
        refine v_goto (pc2 := 15) C dX5_insert_48 rfl ?_
        exact v_lv [1, 2, 0] rfl (ih _ _ (hd.step h16) hres)
def f5_insert (σ : St) (a1 : Int32) : St :=
  (if (gI σ 4) < (10 : Int32) then (f5_insert_L a1 11 σ (gI σ 4)) else σ)
set_option maxHeartbeats 4000000 in
set_option maxRecDepth 100000 in
theorem bf5_insert {X : CX} {Λ : LY} (C : OK X Λ cX5_insert 3 RX5 0 0) {res : St} (E : EN X Λ none none res) (σ : St) (a1 : Int32) (hs : Safe σ) (hres : (f5_insert σ a1) = res) : VV X Λ 3 0 [(0, .ref (adr Λ 3)), (1, .int (a1))] [] σ := by
  unfold f5_insert at hres
  have hq := hs.mem
  refine v_aload_n (pc2 := 1) C 0 dX5_insert_0 rfl rfl ?_
  refine vg_X5_members (pc2 := 4) C lf_X5_18 dX5_insert_1 rfl ?_
  refine v_bipush (pc2 := 6) C dX5_insert_4 kb_10 rfl ?_
  refine v_icmplt (pc2 := 10) (pc3 := 9) C dX5_insert_6 rfl rfl (fun h6 => ?_) (fun h6 => ?_)
  · have hres := (if_pos h6).symm.trans hres
    have t6 := t_lt h6 rfl lit_10
    refine v_aload_n (pc2 := 11) C 0 dX5_insert_10 rfl rfl ?_
    refine vg_X5_members (pc2 := 14) C lf_X5_18 dX5_insert_11 rfl ?_
    refine v_istore_n (pc2 := 15) (lv2 := [(2, _), (0, _), (1, _)]) C dX5_insert_14 (by decide) rfl rfl ?_
    exact v_lv [1, 2, 0] rfl (bf5_insert_L C E _ 11 _ _ ⟨by omega, by omega, by omega⟩  hres)
  · have hres := (if_neg h6).symm.trans hres
    have t6 := t_nlt h6 rfl lit_10
    exact r_vS C E hres dX5_insert_9
theorem mX5_insert (l : Launch) (Λ : LY) (σ : St) (a1 : Int32) (hs : Safe σ) : CT l Λ yX5_insert cX5_insert 3 none 0 0 [.ref (adr Λ 3), .int (a1)] σ none (f5_insert σ a1) := by
  refine CT_of (by decide +kernel) (Nat.le_of_ble_eq_true rfl) ?_
  intro X hX C E
  obtain ⟨res, hres⟩ : ∃ r, (f5_insert σ a1) = r := ⟨_, rfl⟩
  rw [hres] at E
  exact bf5_insert C E _ _  hs hres
theorem sX5_insert_L {a : Int32} : ∀ (n : Nat) (σ : St) (j : Int32), Safe σ → (gI σ 4).toInt < 10 → Safe (f5_insert_L a n σ j) := by
  intro n
  induction n with
  | zero => intro σ j h hp; exact h
  | succ n ih =>
    intro σ j h hp
    have h13 : 0 ≤ (gI σ 4 + (1 : Int32)).toInt ∧ (gI σ 4 + (1 : Int32)).toInt ≤ 10 := by
      have := h.mem
      rw [i_add1 (b := 10) hp (by omega)]; omega
    rw [f5_insert_L]
    repeat' split
    all_goals first | exact sf_I4 h13 (sf_A (by decide) h) | exact ih _ _ (sf_A (by decide) h) hp
theorem sX5_insert {σ : St} {a : Int32} (h : Safe σ) : Safe (f5_insert σ a) := by
  unfold f5_insert
  split
  · rename_i h1; exact sX5_insert_L _ _ _ h (by have := t_lt h1 rfl lit_10; omega)
  · exact h
def f5_rank_L (a2 : Int32) : Nat → St → Int32 → St
  | 0, σ, _ => (σ)
  | n + 1, σ, j => (if (gI σ 2) ≤ j then σ else (if (gA σ 16 (Int32.toNatClampNeg j)) = a2 then (f5_rank_L a2 n (f5_insert σ (gA σ 1 (Int32.toNatClampNeg j))) (j + (1 : Int32))) else (f5_rank_L a2 n σ (j + (1 : Int32)))))
set_option maxHeartbeats 4000000 in
set_option maxRecDepth 100000 in
theorem bf5_rank_L {X : CX} {Λ : LY} (C : OK X Λ cX5_rank 4 RX5 1 22) {res : St} (E : EN X Λ none none res) (a2 : Int32)  : ∀ (n : Nat) (σ : St) (j : Int32), (hs : Safe σ) → (hu : UP 10 j n) → (f5_rank_L a2 n σ j) = res → VV X Λ 4 7 [(0, .ref (adr Λ 3)), (1, .ref (adr Λ 1)), (2, .int (a2)), (3, .int (j))] [] σ := by
  intro n
  induction n with
  | zero => intro σ j hs hu hres; exact absurd hu (fun h => h.z)
  | succ n ih =>
    intro σ j hs hu hres
    rw [f5_rank_L] at hres
    refine v_iload_n (pc2 := 8) C 3 dX5_rank_7 rfl rfl ?_
    refine v_aload_n (pc2 := 9) C 1 dX5_rank_8 rfl rfl ?_
    refine vg_X0_count (pc2 := 12) C lf_X5_23 dX5_rank_9 rfl ?_
    refine v_icmpge (pc2 := 44) (pc3 := 15) C dX5_rank_12 rfl rfl (fun h12 => ?_) (fun h12 => ?_)
    · have hres := (if_pos h12).symm.trans hres
      exact r_vS C E hres dX5_rank_44
    · have hres := (if_neg h12).symm.trans hres
      refine v_aload_n (pc2 := 16) C 1 dX5_rank_15 rfl rfl ?_
      refine vg_X0_rows (pc2 := 19) C lf_X5_28 dX5_rank_16 rfl ?_
      refine v_iload_n (pc2 := 20) C 3 dX5_rank_19 rfl rfl ?_
      have in20 : vp_in j 10 := hu.in h12 hs.cnt.2
      refine v_aald (pc2 := 21) C in20 dX5_rank_20 rfl ?_
      refine vg_X3_inString (pc2 := 24) C (vlt in20) lf_X5_32 dX5_rank_21 rfl ?_
      refine v_iload_n (pc2 := 25) C 2 dX5_rank_24 rfl rfl ?_
      refine v_icmpne (pc2 := 38) (pc3 := 28) C dX5_rank_25 rfl rfl (fun h25 => ?_) (fun h25 => ?_)
      · have hres := (if_neg h25).symm.trans hres
        refine v_iinc (pc2 := 41) (lv2 := [(3, _), (0, _), (1, _), (2, _)]) C 3 dX5_rank_38 rfl ki_1 (by decide) rfl rfl ?_
        refine v_goto (pc2 := 7) C dX5_rank_41 rfl ?_
        exact v_lv [1, 2, 3, 0] rfl (ih _ _ hs (hu.step h12 hs.cnt.2 (by decide)) hres)
      · have hres := (if_pos h25).symm.trans hres
        refine v_aload_n (pc2 := 29) C 0 dX5_rank_28 rfl rfl ?_
        refine v_aload_n (pc2 := 30) C 1 dX5_rank_29 rfl rfl ?_
        refine vg_X0_currents (pc2 := 33) C lf_X5_37 dX5_rank_30 rfl ?_
        refine v_iload_n (pc2 := 34) C 3 dX5_rank_33 rfl rfl ?_
        refine al13 (pc2 := 35) C (hu.in h12 hs.cnt.2) dX5_rank_34 rfl ?_
        refine v_cVv (pc2 := 38) C kc_X5_40 (mX5_insert (xl X) Λ _ _ hs) (wd3 Λ _) rfl (by decide) rfl rfl (Nat.le_of_ble_eq_true rfl) dX5_rank_35 rfl ?_
        refine v_iinc (pc2 := 41) (lv2 := [(3, _), (0, _), (1, _), (2, _)]) C 3 dX5_rank_38 rfl ki_1 (by decide) rfl rfl ?_
        refine v_goto (pc2 := 7) C dX5_rank_41 rfl ?_
        exact v_lv [1, 2, 3, 0] rfl (ih _ _ (sX5_insert hs) (hu.step h12 hs.cnt.2 (by decide)) hres)
def f5_rank (σ : St) (a2 : Int32) : St :=
  (f5_rank_L a2 11 (uI σ 4 (0 : Int32)) (0 : Int32))
set_option maxHeartbeats 4000000 in
set_option maxRecDepth 100000 in
theorem bf5_rank {X : CX} {Λ : LY} (C : OK X Λ cX5_rank 4 RX5 1 22) {res : St} (E : EN X Λ none none res) (σ : St) (a2 : Int32) (hs : Safe σ) (hres : (f5_rank σ a2) = res) : VV X Λ 4 0 [(0, .ref (adr Λ 3)), (1, .ref (adr Λ 1)), (2, .int (a2))] [] σ := by
  unfold f5_rank at hres
  refine v_aload_n (pc2 := 1) C 0 dX5_rank_0 rfl rfl ?_
  refine v_iconst (pc2 := 2) C dX5_rank_1 ki_0 rfl ?_
  refine vp_X5_members (pc2 := 5) C lf_X5_18 dX5_rank_2 rfl ?_
  refine v_iconst (pc2 := 6) C dX5_rank_5 ki_0 rfl ?_
  refine v_istore_n (pc2 := 7) (lv2 := [(3, _), (0, _), (1, _), (2, _)]) C dX5_rank_6 (by decide) rfl rfl ?_
  exact v_lv [1, 2, 3, 0] rfl (bf5_rank_L C E _ 11 _ _ (sf_I4 (by rw [lit_0]; decide) hs) UP.start  hres)
theorem mX5_rank (l : Launch) (Λ : LY) (σ : St) (a2 : Int32) (hs : Safe σ) : CT l Λ yX5_rank cX5_rank 4 none 1 22 [.ref (adr Λ 3), .ref (adr Λ 1), .int (a2)] σ none (f5_rank σ a2) := by
  refine CT_of (by decide +kernel) (Nat.le_of_ble_eq_true rfl) ?_
  intro X hX C E
  obtain ⟨res, hres⟩ : ∃ r, (f5_rank σ a2) = r := ⟨_, rfl⟩
  rw [hres] at E
  exact bf5_rank C E _ _  hs hres
theorem sX5_rank_L {a : Int32} : ∀ (n : Nat) (σ : St) (j : Int32), Safe σ → Safe (f5_rank_L a n σ j) := by
  intro n
  induction n with
  | zero => intro σ j h; exact h
  | succ n ih =>
    intro σ j h
    rw [f5_rank_L]
    repeat' split
    all_goals first | exact h | (refine ih _ _ ?_; repeat' (first | assumption | apply sX5_insert))
theorem sX5_rank {σ : St} {a : Int32} (h : Safe σ) : Safe (f5_rank σ a) := sX5_rank_L _ _ _ (sf_I4 (by rw [lit_0]; decide) h)
def f5_best_L (σ : St) : Nat → Int32 → Int32 → Int32
  | 0, _, _ => (0)
  | n + 1, b, j => (if (gI σ 4) ≤ j then b else (f5_best_L σ n (if b < ((j + (1 : Int32)) * (gA σ 5 (Int32.toNatClampNeg j))) then ((j + (1 : Int32)) * (gA σ 5 (Int32.toNatClampNeg j))) else b) (j + (1 : Int32))))
set_option maxHeartbeats 4000000 in
set_option maxRecDepth 100000 in
theorem bf5_best_L {X : CX} {Λ : LY} (C : OK X Λ cX5_best 3 RX5 1 23) {σ : St} {res : Int32} (E : EN X Λ (some .int) (some (.int res)) σ)  : ∀ (n : Nat) (b : Int32) (j : Int32), (hs : Safe σ) → (hu : UP 10 j n) → (f5_best_L σ n b j) = res → VV X Λ 3 4 [(0, .ref (adr Λ 3)), (1, .int (b)), (2, .int (j))] [] σ := by
  intro n
  induction n with
  | zero => intro b j hs hu hres; exact absurd hu (fun h => h.z)
  | succ n ih =>
    intro b j hs hu hres
    rw [f5_best_L] at hres
    refine v_iload_n (pc2 := 5) C 2 dX5_best_4 rfl rfl ?_
    refine v_aload_n (pc2 := 6) C 0 dX5_best_5 rfl rfl ?_
    refine vg_X5_members (pc2 := 9) C lf_X5_18 dX5_best_6 rfl ?_
    refine v_icmpge (pc2 := 33) (pc3 := 12) C dX5_best_9 rfl rfl (fun h9 => ?_) (fun h9 => ?_)
    · have hres := (if_pos h9).symm.trans hres
      refine v_iload_n (pc2 := 34) C 1 dX5_best_33 rfl rfl ?_
      exact r_iP C E hres dX5_best_34
    · have hres := (if_neg h9).symm.trans hres
      refine v_iload_n (pc2 := 13) C 1 dX5_best_12 rfl rfl ?_
      refine v_iload_n (pc2 := 14) C 2 dX5_best_13 rfl rfl ?_
      refine v_iconst (pc2 := 15) C dX5_best_14 ki_1 rfl ?_
      refine v_iadd (pc2 := 16) C dX5_best_15 rfl ?_
      refine v_aload_n (pc2 := 17) C 0 dX5_best_16 rfl rfl ?_
      refine vg_X5_ranked (pc2 := 20) C lf_X5_15 dX5_best_17 rfl ?_
      refine v_iload_n (pc2 := 21) C 2 dX5_best_20 rfl rfl ?_
      refine al17 (pc2 := 22) C (hu.in h9 hs.mem.2) dX5_best_21 rfl ?_
      refine v_imul (pc2 := 23) C dX5_best_22 rfl ?_
      refine v_mmax (pc2 := 26) C ml_X5_44 ms_mmax mi_Math mc_mmax (by decide) (Nat.le_of_ble_eq_true rfl) dX5_best_23 rfl ?_
      refine v_istore_n (pc2 := 27) (lv2 := [(1, _), (0, _), (2, _)]) C dX5_best_26 (by decide) rfl rfl ?_
      refine v_iinc (pc2 := 30) (lv2 := [(2, _), (1, _), (0, _)]) C 2 dX5_best_27 rfl ki_1 (by decide) rfl rfl ?_
      refine v_goto (pc2 := 4) C dX5_best_30 rfl ?_
      exact v_lv [2, 1, 0] rfl (ih _ _ hs (hu.step h9 hs.mem.2 (by decide)) hres)
def f5_best (σ : St) : Int32 :=
  (f5_best_L σ 11 (0 : Int32) (0 : Int32))
set_option maxHeartbeats 4000000 in
set_option maxRecDepth 100000 in
theorem bf5_best {X : CX} {Λ : LY} (C : OK X Λ cX5_best 3 RX5 1 23) {σ : St} {res : Int32} (E : EN X Λ (some .int) (some (.int res)) σ) (hs : Safe σ) (hres : (f5_best σ) = res) : VV X Λ 3 0 [(0, .ref (adr Λ 3))] [] σ := by
  unfold f5_best at hres
  refine v_iconst (pc2 := 1) C dX5_best_0 ki_0 rfl ?_
  refine v_istore_n (pc2 := 2) (lv2 := [(1, _), (0, _)]) C dX5_best_1 (by decide) rfl rfl ?_
  refine v_iconst (pc2 := 3) C dX5_best_2 ki_0 rfl ?_
  refine v_istore_n (pc2 := 4) (lv2 := [(2, _), (1, _), (0, _)]) C dX5_best_3 (by decide) rfl rfl ?_
  exact v_lv [2, 1, 0] rfl (bf5_best_L C E  11 _ _ hs UP.start  hres)
theorem mX5_best (l : Launch) (Λ : LY) (σ : St) (hs : Safe σ) : CT l Λ yX5_best cX5_best 3 (some .int) 1 23 [.ref (adr Λ 3)] σ (some (.int (f5_best σ))) σ := by
  refine CT_of (by decide +kernel) (Nat.le_of_ble_eq_true rfl) ?_
  intro X hX C E
  obtain ⟨res, hres⟩ : ∃ r, (f5_best σ) = r := ⟨_, rfl⟩
  rw [hres] at E
  exact bf5_best C E   hs hres
def f5_sumOfRanked_L (σ : St) : Nat → Int32 → Int32 → Int32
  | 0, _, _ => (0)
  | n + 1, b, j => (if (gI σ 4) ≤ j then b else (f5_sumOfRanked_L σ n (b + (gA σ 5 (Int32.toNatClampNeg j))) (j + (1 : Int32))))
set_option maxHeartbeats 4000000 in
set_option maxRecDepth 100000 in
theorem bf5_sumOfRanked_L {X : CX} {Λ : LY} (C : OK X Λ cX5_sumOfRanked 3 RX5 0 0) {σ : St} {res : Int32} (E : EN X Λ (some .int) (some (.int res)) σ)  : ∀ (n : Nat) (b : Int32) (j : Int32), (hs : Safe σ) → (hu : UP 10 j n) → (f5_sumOfRanked_L σ n b j) = res → VV X Λ 3 4 [(0, .ref (adr Λ 3)), (1, .int (b)), (2, .int (j))] [] σ := by
  intro n
  induction n with
  | zero => intro b j hs hu hres; exact absurd hu (fun h => h.z)
  | succ n ih =>
    intro b j hs hu hres
    rw [f5_sumOfRanked_L] at hres
    refine v_iload_n (pc2 := 5) C 2 dX5_sumOfRanked_4 rfl rfl ?_
    refine v_aload_n (pc2 := 6) C 0 dX5_sumOfRanked_5 rfl rfl ?_
    refine vg_X5_members (pc2 := 9) C lf_X5_18 dX5_sumOfRanked_6 rfl ?_
    refine v_icmpge (pc2 := 27) (pc3 := 12) C dX5_sumOfRanked_9 rfl rfl (fun h9 => ?_) (fun h9 => ?_)
    · have hres := (if_pos h9).symm.trans hres
      refine v_iload_n (pc2 := 28) C 1 dX5_sumOfRanked_27 rfl rfl ?_
      exact r_iP C E hres dX5_sumOfRanked_28
    · have hres := (if_neg h9).symm.trans hres
      refine v_iload_n (pc2 := 13) C 1 dX5_sumOfRanked_12 rfl rfl ?_
      refine v_aload_n (pc2 := 14) C 0 dX5_sumOfRanked_13 rfl rfl ?_
      refine vg_X5_ranked (pc2 := 17) C lf_X5_15 dX5_sumOfRanked_14 rfl ?_
      refine v_iload_n (pc2 := 18) C 2 dX5_sumOfRanked_17 rfl rfl ?_
      refine al17 (pc2 := 19) C (hu.in h9 hs.mem.2) dX5_sumOfRanked_18 rfl ?_
      refine v_iadd (pc2 := 20) C dX5_sumOfRanked_19 rfl ?_
      refine v_istore_n (pc2 := 21) (lv2 := [(1, _), (0, _), (2, _)]) C dX5_sumOfRanked_20 (by decide) rfl rfl ?_
      refine v_iinc (pc2 := 24) (lv2 := [(2, _), (1, _), (0, _)]) C 2 dX5_sumOfRanked_21 rfl ki_1 (by decide) rfl rfl ?_
      refine v_goto (pc2 := 4) C dX5_sumOfRanked_24 rfl ?_
      exact v_lv [2, 1, 0] rfl (ih _ _ hs (hu.step h9 hs.mem.2 (by decide)) hres)
def f5_sumOfRanked (σ : St) : Int32 :=
  (f5_sumOfRanked_L σ 11 (0 : Int32) (0 : Int32))
set_option maxHeartbeats 4000000 in
set_option maxRecDepth 100000 in
theorem bf5_sumOfRanked {X : CX} {Λ : LY} (C : OK X Λ cX5_sumOfRanked 3 RX5 0 0) {σ : St} {res : Int32} (E : EN X Λ (some .int) (some (.int res)) σ) (hs : Safe σ) (hres : (f5_sumOfRanked σ) = res) : VV X Λ 3 0 [(0, .ref (adr Λ 3))] [] σ := by
  unfold f5_sumOfRanked at hres
  refine v_iconst (pc2 := 1) C dX5_sumOfRanked_0 ki_0 rfl ?_
  refine v_istore_n (pc2 := 2) (lv2 := [(1, _), (0, _)]) C dX5_sumOfRanked_1 (by decide) rfl rfl ?_
  refine v_iconst (pc2 := 3) C dX5_sumOfRanked_2 ki_0 rfl ?_
  refine v_istore_n (pc2 := 4) (lv2 := [(2, _), (1, _), (0, _)]) C dX5_sumOfRanked_3 (by decide) rfl rfl ?_
  exact v_lv [2, 1, 0] rfl (bf5_sumOfRanked_L C E  11 _ _ hs UP.start  hres)
theorem mX5_sumOfRanked (l : Launch) (Λ : LY) (σ : St) (hs : Safe σ) : CT l Λ yX5_sumOfRanked cX5_sumOfRanked 3 (some .int) 0 0 [.ref (adr Λ 3)] σ (some (.int (f5_sumOfRanked σ))) σ := by
  refine CT_of (by decide +kernel) (Nat.le_of_ble_eq_true rfl) ?_
  intro X hX C E
  obtain ⟨res, hres⟩ : ∃ r, (f5_sumOfRanked σ) = r := ⟨_, rfl⟩
  rw [hres] at E
  exact bf5_sumOfRanked C E   hs hres
def f5_bookInto_P : Nat → St → Int32 → St
  | 0, σ, _ => (σ)
  | n + 1, σ, j => (if (gI σ 2) ≤ j then σ else (if (gA σ 16 (Int32.toNatClampNeg j)) = (-1 : Int32) then (f5_bookInto_P n σ (j + (1 : Int32))) else (if (f2_isLit σ j) = (0 : Int32) then (f5_bookInto_P n σ (j + (1 : Int32))) else (f5_bookInto_P n (uB (uB (uB σ 2 (Int32.toNatClampNeg (0 : Int32)) ((gB σ 2 (Int32.toNatClampNeg (0 : Int32))) + (((3 : Int64) * (f2_stretch σ j)) / (3000000 : Int64)))) 2 (Int32.toNatClampNeg (1 : Int32)) ((gB (uB σ 2 (Int32.toNatClampNeg (0 : Int32)) ((gB σ 2 (Int32.toNatClampNeg (0 : Int32))) + (((3 : Int64) * (f2_stretch σ j)) / (3000000 : Int64)))) 2 (Int32.toNatClampNeg (1 : Int32))) + ((((3 : Int64) * (f2_stretch σ j)) / (3000000 : Int64)) - (gB (uB σ 2 (Int32.toNatClampNeg (0 : Int32)) ((gB σ 2 (Int32.toNatClampNeg (0 : Int32))) + (((3 : Int64) * (f2_stretch σ j)) / (3000000 : Int64)))) 0 (Int32.toNatClampNeg j))))) 2 (Int32.toNatClampNeg (2 : Int32)) ((gB (uB (uB σ 2 (Int32.toNatClampNeg (0 : Int32)) ((gB σ 2 (Int32.toNatClampNeg (0 : Int32))) + (((3 : Int64) * (f2_stretch σ j)) / (3000000 : Int64)))) 2 (Int32.toNatClampNeg (1 : Int32)) ((gB (uB σ 2 (Int32.toNatClampNeg (0 : Int32)) ((gB σ 2 (Int32.toNatClampNeg (0 : Int32))) + (((3 : Int64) * (f2_stretch σ j)) / (3000000 : Int64)))) 2 (Int32.toNatClampNeg (1 : Int32))) + ((((3 : Int64) * (f2_stretch σ j)) / (3000000 : Int64)) - (gB (uB σ 2 (Int32.toNatClampNeg (0 : Int32)) ((gB σ 2 (Int32.toNatClampNeg (0 : Int32))) + (((3 : Int64) * (f2_stretch σ j)) / (3000000 : Int64)))) 0 (Int32.toNatClampNeg j))))) 2 (Int32.toNatClampNeg (2 : Int32))) + (gB (uB (uB σ 2 (Int32.toNatClampNeg (0 : Int32)) ((gB σ 2 (Int32.toNatClampNeg (0 : Int32))) + (((3 : Int64) * (f2_stretch σ j)) / (3000000 : Int64)))) 2 (Int32.toNatClampNeg (1 : Int32)) ((gB (uB σ 2 (Int32.toNatClampNeg (0 : Int32)) ((gB σ 2 (Int32.toNatClampNeg (0 : Int32))) + (((3 : Int64) * (f2_stretch σ j)) / (3000000 : Int64)))) 2 (Int32.toNatClampNeg (1 : Int32))) + ((((3 : Int64) * (f2_stretch σ j)) / (3000000 : Int64)) - (gB (uB σ 2 (Int32.toNatClampNeg (0 : Int32)) ((gB σ 2 (Int32.toNatClampNeg (0 : Int32))) + (((3 : Int64) * (f2_stretch σ j)) / (3000000 : Int64)))) 0 (Int32.toNatClampNeg j))))) 1 (Int32.toNatClampNeg j)))) (j + (1 : Int32))))))
set_option maxHeartbeats 4000000 in
set_option maxRecDepth 100000 in
theorem bf5_bookInto_P {X : CX} {Λ : LY} (C : OK X Λ cX5_bookInto 6 RX5 2 45) {out : St} (k : VV X Λ 6 102 [(0, .ref (adr Λ 3)), (1, .ref (adr Λ 5)), (2, .ref (adr Λ 1))] [] (out)) : ∀ (n : Nat) (σ : St) (j : Int32), (hs : Safe σ) → (hu : UP 10 j n) → (f5_bookInto_P n σ j) = out → VV X Λ 6 2 [(0, .ref (adr Λ 3)), (1, .ref (adr Λ 5)), (2, .ref (adr Λ 1)), (3, .int (j))] [] σ := by
  intro n
  induction n with
  | zero => intro σ j hs hu hres; exact absurd hu (fun h => h.z)
  | succ n ih =>
    intro σ j hs hu hres
    rw [f5_bookInto_P] at hres
    refine v_iload_n (pc2 := 3) C 3 dX5_bookInto_2 rfl rfl ?_
    refine v_aload_n (pc2 := 4) C 2 dX5_bookInto_3 rfl rfl ?_
    refine vg_X0_count (pc2 := 7) C lf_X5_23 dX5_bookInto_4 rfl ?_
    refine v_icmpge (pc2 := 102) (pc3 := 10) C dX5_bookInto_7 rfl rfl (fun h7 => ?_) (fun h7 => ?_)
    · have hres := (if_pos h7).symm.trans hres
      subst hres
      exact v_lv [0, 1, 2] rfl k
    · have hres := (if_neg h7).symm.trans hres
      refine v_aload_n (pc2 := 11) C 2 dX5_bookInto_10 rfl rfl ?_
      refine vg_X0_rows (pc2 := 14) C lf_X5_28 dX5_bookInto_11 rfl ?_
      refine v_iload_n (pc2 := 15) C 3 dX5_bookInto_14 rfl rfl ?_
      have in15 : vp_in j 10 := hu.in h7 hs.cnt.2
      refine v_aald (pc2 := 16) C in15 dX5_bookInto_15 rfl ?_
      refine vg_X3_inString (pc2 := 19) C (vlt in15) lf_X5_32 dX5_bookInto_16 rfl ?_
      refine v_iconst (pc2 := 20) C dX5_bookInto_19 ki_m1 rfl ?_
      refine v_icmpeq (pc2 := 96) (pc3 := 23) C dX5_bookInto_20 rfl rfl (fun h20 => ?_) (fun h20 => ?_)
      · have hres := (if_pos h20).symm.trans hres
        refine v_iinc (pc2 := 99) (lv2 := [(3, _), (0, _), (1, _), (2, _)]) C 3 dX5_bookInto_96 rfl ki_1 (by decide) rfl rfl ?_
        refine v_goto (pc2 := 2) C dX5_bookInto_99 rfl ?_
        exact v_lv [1, 2, 3, 0] rfl (ih _ _ hs (hu.step h7 hs.cnt.2 (by decide)) hres)
      · have hres := (if_neg h20).symm.trans hres
        refine v_aload_n (pc2 := 24) C 2 dX5_bookInto_23 rfl rfl ?_
        refine vg_X0_looks (pc2 := 27) C lf_X5_50 dX5_bookInto_24 rfl ?_
        refine v_iload_n (pc2 := 28) C 3 dX5_bookInto_27 rfl rfl ?_
        refine v_cVi (pc2 := 31) C kc_X5_54 (mX2_isLit (xl X) Λ _ _ in15) (wd10 Λ _) rfl (by decide) rfl rfl (Nat.le_of_ble_eq_true rfl) dX5_bookInto_28 rfl ?_
        refine v_ifeq (pc2 := 96) (pc3 := 34) C dX5_bookInto_31 rfl rfl (fun h31 => ?_) (fun h31 => ?_)
        · have hres := (if_pos h31).symm.trans hres
          refine v_iinc (pc2 := 99) (lv2 := [(3, _), (0, _), (1, _), (2, _)]) C 3 dX5_bookInto_96 rfl ki_1 (by decide) rfl rfl ?_
          refine v_goto (pc2 := 2) C dX5_bookInto_99 rfl ?_
          exact v_lv [1, 2, 3, 0] rfl (ih _ _ hs (hu.step h7 hs.cnt.2 (by decide)) hres)
        · have hres := (if_neg h31).symm.trans hres
          refine v_ldc2 (pc2 := 37) C lc_X5_60 dX5_bookInto_34 rfl ?_
          refine v_aload_n (pc2 := 38) C 2 dX5_bookInto_37 rfl rfl ?_
          refine vg_X0_looks (pc2 := 41) C lf_X5_50 dX5_bookInto_38 rfl ?_
          refine v_iload_n (pc2 := 42) C 3 dX5_bookInto_41 rfl rfl ?_
          refine v_cVl (pc2 := 45) C kc_X5_62 (mX2_stretch (xl X) Λ _ _ in15) (wd10 Λ _) rfl (by decide) rfl rfl (Nat.le_of_ble_eq_true rfl) dX5_bookInto_42 rfl ?_
          refine v_lmul (pc2 := 46) C dX5_bookInto_45 rfl ?_
          refine v_ldc2 (pc2 := 49) C lc_X5_66 dX5_bookInto_46 rfl ?_
          refine v_ldiv (pc2 := 50) C dX5_bookInto_49 (by decide) rfl ?_
          refine v_lstore (pc2 := 52) (lv2 := [(4, _), (0, _), (1, _), (2, _), (3, _)]) C dX5_bookInto_50 (by decide) rfl rfl ?_
          refine v_aload_n (pc2 := 53) C 2 dX5_bookInto_52 rfl rfl ?_
          refine vg_X1_latest (pc2 := 56) C lf_X5_68 dX5_bookInto_53 rfl ?_
          refine v_iconst (pc2 := 57) C dX5_bookInto_56 ki_0 rfl ?_
          refine v_dup2 (pc2 := 58) C dX5_bookInto_57 rfl rfl rfl ?_
          refine al20 (pc2 := 59) C (in_lit (by decide +kernel)) dX5_bookInto_58 rfl ?_
          refine v_lload (pc2 := 61) C 0 dX5_bookInto_59 rfl rfl ?_
          refine v_ladd (pc2 := 62) C dX5_bookInto_61 rfl ?_
          refine as20 (pc2 := 63) C (in_lit (by decide +kernel)) dX5_bookInto_62 rfl ?_
          refine v_aload_n (pc2 := 64) C 2 dX5_bookInto_63 rfl rfl ?_
          refine vg_X1_latest (pc2 := 67) C lf_X5_68 dX5_bookInto_64 rfl ?_
          refine v_iconst (pc2 := 68) C dX5_bookInto_67 ki_1 rfl ?_
          refine v_dup2 (pc2 := 69) C dX5_bookInto_68 rfl rfl rfl ?_
          refine al20 (pc2 := 70) C (in_lit (by decide +kernel)) dX5_bookInto_69 rfl ?_
          refine v_lload (pc2 := 72) C 0 dX5_bookInto_70 rfl rfl ?_
          refine v_aload_n (pc2 := 73) C 3 dX5_bookInto_72 rfl rfl ?_
          refine vg_X0_unshaded (pc2 := 76) C lf_X5_74 dX5_bookInto_73 rfl ?_
          refine v_iload_n (pc2 := 77) C 4 dX5_bookInto_76 rfl rfl ?_
          refine al11 (pc2 := 78) C in15 dX5_bookInto_77 rfl ?_
          refine v_lsub (pc2 := 79) C dX5_bookInto_78 rfl ?_
          refine v_ladd (pc2 := 80) C dX5_bookInto_79 rfl ?_
          refine as20 (pc2 := 81) C (in_lit (by decide +kernel)) dX5_bookInto_80 rfl ?_
          refine v_aload_n (pc2 := 82) C 2 dX5_bookInto_81 rfl rfl ?_
          refine vg_X1_latest (pc2 := 85) C lf_X5_68 dX5_bookInto_82 rfl ?_
          refine v_iconst (pc2 := 86) C dX5_bookInto_85 ki_2 rfl ?_
          refine v_dup2 (pc2 := 87) C dX5_bookInto_86 rfl rfl rfl ?_
          refine al20 (pc2 := 88) C (in_lit (by decide +kernel)) dX5_bookInto_87 rfl ?_
          refine v_aload_n (pc2 := 89) C 3 dX5_bookInto_88 rfl rfl ?_
          refine vg_X0_taken (pc2 := 92) C lf_X5_77 dX5_bookInto_89 rfl ?_
          refine v_iload_n (pc2 := 93) C 4 dX5_bookInto_92 rfl rfl ?_
          refine al12 (pc2 := 94) C in15 dX5_bookInto_93 rfl ?_
          refine v_ladd (pc2 := 95) C dX5_bookInto_94 rfl ?_
          refine as20 (pc2 := 96) C (in_lit (by decide +kernel)) dX5_bookInto_95 rfl ?_
          refine v_iinc (pc2 := 99) (lv2 := [(3, _), (4, _), (0, _), (1, _), (2, _)]) C 4 dX5_bookInto_96 rfl ki_1 (by decide) rfl rfl ?_
          refine v_goto (pc2 := 2) C dX5_bookInto_99 rfl ?_
          exact v_lv [2, 3, 4, 0] rfl (ih _ _ (sf_B (sf_B (sf_B hs))) (hu.step h7 hs.cnt.2 (by decide)) hres)
theorem sX5_bookInto_P  : ∀ (n : Nat) (σ : St) (j : Int32), Safe σ → Safe (f5_bookInto_P n σ j) := by
  intro n
  induction n with
  | zero => intro σ j h; exact h
  | succ n ih =>
    intro σ j h
    rw [f5_bookInto_P]
    split
    · exact h
    · split
      · exact ih _ _ h
      · split
        · exact ih _ _ h
        · exact ih _ _ (sf_B (sf_B (sf_B h)))
def f5_bookInto_Q : Nat → St → Int32 → St
  | 0, σ, _ => (σ)
  | n + 1, σ, j => (if (4 : Int32) ≤ j then σ else (f5_bookInto_Q n (uB (uB (uB (f5_rank σ j) 2 (Int32.toNatClampNeg (3 : Int32)) ((gB (f5_rank σ j) 2 (Int32.toNatClampNeg (3 : Int32))) + (Int32.toInt64 ((f5_sumOfRanked (f5_rank σ j)) - (f5_best (f5_rank σ j)))))) 2 (Int32.toNatClampNeg (4 : Int32)) ((gB (uB (f5_rank σ j) 2 (Int32.toNatClampNeg (3 : Int32)) ((gB (f5_rank σ j) 2 (Int32.toNatClampNeg (3 : Int32))) + (Int32.toInt64 ((f5_sumOfRanked (f5_rank σ j)) - (f5_best (f5_rank σ j)))))) 2 (Int32.toNatClampNeg (4 : Int32))) + (Int32.toInt64 ((f5_best (f5_rank σ j)) - (if (gA (f5_rank σ j) 4 (Int32.toNatClampNeg j)) < (f5_best (f5_rank σ j)) then (gA (f5_rank σ j) 4 (Int32.toNatClampNeg j)) else (f5_best (f5_rank σ j))))))) 2 (Int32.toNatClampNeg (5 : Int32)) ((gB (uB (uB (f5_rank σ j) 2 (Int32.toNatClampNeg (3 : Int32)) ((gB (f5_rank σ j) 2 (Int32.toNatClampNeg (3 : Int32))) + (Int32.toInt64 ((f5_sumOfRanked (f5_rank σ j)) - (f5_best (f5_rank σ j)))))) 2 (Int32.toNatClampNeg (4 : Int32)) ((gB (uB (f5_rank σ j) 2 (Int32.toNatClampNeg (3 : Int32)) ((gB (f5_rank σ j) 2 (Int32.toNatClampNeg (3 : Int32))) + (Int32.toInt64 ((f5_sumOfRanked (f5_rank σ j)) - (f5_best (f5_rank σ j)))))) 2 (Int32.toNatClampNeg (4 : Int32))) + (Int32.toInt64 ((f5_best (f5_rank σ j)) - (if (gA (f5_rank σ j) 4 (Int32.toNatClampNeg j)) < (f5_best (f5_rank σ j)) then (gA (f5_rank σ j) 4 (Int32.toNatClampNeg j)) else (f5_best (f5_rank σ j))))))) 2 (Int32.toNatClampNeg (5 : Int32))) + (Int32.toInt64 (if (gA (f5_rank σ j) 4 (Int32.toNatClampNeg j)) < (f5_best (f5_rank σ j)) then (gA (f5_rank σ j) 4 (Int32.toNatClampNeg j)) else (f5_best (f5_rank σ j)))))) (j + (1 : Int32))))
set_option maxHeartbeats 4000000 in
set_option maxRecDepth 100000 in
theorem bf5_bookInto_Q {X : CX} {Λ : LY} (C : OK X Λ cX5_bookInto 6 RX5 2 45) {res : St} (E : EN X Λ none none res)  : ∀ (n : Nat) (σ : St) (j : Int32), (hs : Safe σ) → (hv : UP 4 j n) → (f5_bookInto_Q n σ j) = res → VV X Λ 6 104 [(0, .ref (adr Λ 3)), (1, .ref (adr Λ 5)), (2, .ref (adr Λ 1)), (3, .int (j))] [] σ := by
  intro n
  induction n with
  | zero => intro σ j hs hv hres; exact absurd hv (fun h => h.z)
  | succ n ih =>
    intro σ j hs hv hres
    rw [f5_bookInto_Q] at hres
    refine v_iload_n (pc2 := 105) C 3 dX5_bookInto_104 rfl rfl ?_
    refine v_iconst (pc2 := 106) C dX5_bookInto_105 ki_4 rfl ?_
    refine v_icmpge (pc2 := 184) (pc3 := 109) C dX5_bookInto_106 rfl rfl (fun h106 => ?_) (fun h106 => ?_)
    · have hres := (if_pos h106).symm.trans hres
      exact r_vS C E hres dX5_bookInto_184
    · have hres := (if_neg h106).symm.trans hres
      refine v_aload_n (pc2 := 110) C 0 dX5_bookInto_109 rfl rfl ?_
      refine v_aload_n (pc2 := 111) C 2 dX5_bookInto_110 rfl rfl ?_
      refine v_iload_n (pc2 := 112) C 3 dX5_bookInto_111 rfl rfl ?_
      refine v_cVv (pc2 := 115) C kc_X5_80 (mX5_rank (xl X) Λ _ _ hs) (wd3 Λ _) rfl (by decide) rfl rfl (Nat.le_of_ble_eq_true rfl) dX5_bookInto_112 rfl ?_
      refine v_aload_n (pc2 := 116) C 0 dX5_bookInto_115 rfl rfl ?_
      refine v_cVi (pc2 := 119) C kc_X5_84 (mX5_best (xl X) Λ _ (sX5_rank hs)) (wd3 Λ _) rfl (by decide) rfl rfl (Nat.le_of_ble_eq_true rfl) dX5_bookInto_116 rfl ?_
      refine v_istore (pc2 := 121) (lv2 := [(4, _), (0, _), (1, _), (2, _), (3, _)]) C dX5_bookInto_119 (by decide) rfl rfl ?_
      refine v_iload (pc2 := 123) C 0 dX5_bookInto_121 rfl rfl ?_
      refine v_aload_n (pc2 := 124) C 1 dX5_bookInto_123 rfl rfl ?_
      refine vg_X5_ceilings (pc2 := 127) C lf_X5_9 dX5_bookInto_124 rfl ?_
      refine v_iload_n (pc2 := 128) C 4 dX5_bookInto_127 rfl rfl ?_
      refine al16 (pc2 := 129) C (hv.in h106 (by rw [lit_4]; decide)) dX5_bookInto_128 rfl ?_
      refine v_mmin (pc2 := 132) C ml_X5_88 ms_mmin mi_Math mc_mmin (by decide) (Nat.le_of_ble_eq_true rfl) dX5_bookInto_129 rfl ?_
      refine v_istore (pc2 := 134) (lv2 := [(5, _), (4, _), (0, _), (1, _), (2, _), (3, _)]) C dX5_bookInto_132 (by decide) rfl rfl ?_
      refine v_aload_n (pc2 := 135) C 3 dX5_bookInto_134 rfl rfl ?_
      refine vg_X1_latest (pc2 := 138) C lf_X5_68 dX5_bookInto_135 rfl ?_
      refine v_iconst (pc2 := 139) C dX5_bookInto_138 ki_3 rfl ?_
      refine v_dup2 (pc2 := 140) C dX5_bookInto_139 rfl rfl rfl ?_
      refine al20 (pc2 := 141) C (in_lit (by decide +kernel)) dX5_bookInto_140 rfl ?_
      refine v_aload_n (pc2 := 142) C 2 dX5_bookInto_141 rfl rfl ?_
      refine v_cVi (pc2 := 145) C kc_X5_91 (mX5_sumOfRanked (xl X) Λ _ (sX5_rank hs)) (wd3 Λ _) rfl (by decide) rfl rfl (Nat.le_of_ble_eq_true rfl) dX5_bookInto_142 rfl ?_
      refine v_iload (pc2 := 147) C 1 dX5_bookInto_145 rfl rfl ?_
      refine v_isub (pc2 := 148) C dX5_bookInto_147 rfl ?_
      refine v_i2l (pc2 := 149) C dX5_bookInto_148 rfl ?_
      refine v_ladd (pc2 := 150) C dX5_bookInto_149 rfl ?_
      refine as20 (pc2 := 151) C (in_lit (by decide +kernel)) dX5_bookInto_150 rfl ?_
      refine v_aload_n (pc2 := 152) C 3 dX5_bookInto_151 rfl rfl ?_
      refine vg_X1_latest (pc2 := 155) C lf_X5_68 dX5_bookInto_152 rfl ?_
      refine v_iconst (pc2 := 156) C dX5_bookInto_155 ki_4 rfl ?_
      refine v_dup2 (pc2 := 157) C dX5_bookInto_156 rfl rfl rfl ?_
      refine al20 (pc2 := 158) C (in_lit (by decide +kernel)) dX5_bookInto_157 rfl ?_
      refine v_iload (pc2 := 160) C 1 dX5_bookInto_158 rfl rfl ?_
      refine v_iload (pc2 := 162) C 0 dX5_bookInto_160 rfl rfl ?_
      refine v_isub (pc2 := 163) C dX5_bookInto_162 rfl ?_
      refine v_i2l (pc2 := 164) C dX5_bookInto_163 rfl ?_
      refine v_ladd (pc2 := 165) C dX5_bookInto_164 rfl ?_
      refine as20 (pc2 := 166) C (in_lit (by decide +kernel)) dX5_bookInto_165 rfl ?_
      refine v_aload_n (pc2 := 167) C 3 dX5_bookInto_166 rfl rfl ?_
      refine vg_X1_latest (pc2 := 170) C lf_X5_68 dX5_bookInto_167 rfl ?_
      refine v_iconst (pc2 := 171) C dX5_bookInto_170 ki_5 rfl ?_
      refine v_dup2 (pc2 := 172) C dX5_bookInto_171 rfl rfl rfl ?_
      refine al20 (pc2 := 173) C (in_lit (by decide +kernel)) dX5_bookInto_172 rfl ?_
      refine v_iload (pc2 := 175) C 0 dX5_bookInto_173 rfl rfl ?_
      refine v_i2l (pc2 := 176) C dX5_bookInto_175 rfl ?_
      refine v_ladd (pc2 := 177) C dX5_bookInto_176 rfl ?_
      refine as20 (pc2 := 178) C (in_lit (by decide +kernel)) dX5_bookInto_177 rfl ?_
      refine v_iinc (pc2 := 181) (lv2 := [(3, _), (5, _), (4, _), (0, _), (1, _), (2, _)]) C 5 dX5_bookInto_178 rfl ki_1 (by decide) rfl rfl ?_
      refine v_goto (pc2 := 104) C dX5_bookInto_181 rfl ?_
      exact v_lv [3, 4, 5, 0] rfl (ih _ _ (sf_B (sf_B (sf_B (sX5_rank hs)))) (hv.step h106 (by rw [lit_4]; decide) (by decide)) hres)
def f5_bookInto (σ : St) : St :=
  (f5_bookInto_Q 5 (f5_bookInto_P 11 σ (0 : Int32)) (0 : Int32))
set_option maxHeartbeats 4000000 in
set_option maxRecDepth 100000 in
theorem bf5_bookInto {X : CX} {Λ : LY} (C : OK X Λ cX5_bookInto 6 RX5 2 45) {res : St} (E : EN X Λ none none res) (σ : St) (hs : Safe σ) (hres : (f5_bookInto σ) = res) : VV X Λ 6 0 [(0, .ref (adr Λ 3)), (1, .ref (adr Λ 5)), (2, .ref (adr Λ 1))] [] σ := by
  unfold f5_bookInto at hres
  refine v_iconst (pc2 := 1) C dX5_bookInto_0 ki_0 rfl ?_
  refine v_istore_n (pc2 := 2) (lv2 := [(3, _), (0, _), (1, _), (2, _)]) C dX5_bookInto_1 (by decide) rfl rfl ?_
  refine v_lv [1, 2, 3, 0] rfl ?_
  refine bf5_bookInto_P C  (out := (f5_bookInto_P 11 σ (0 : Int32))) ?_ 11 σ (0 : Int32) hs UP.start rfl
  refine v_iconst (pc2 := 103) C dX5_bookInto_102 ki_0 rfl ?_
  refine v_istore_n (pc2 := 104) (lv2 := [(3, _), (0, _), (1, _), (2, _)]) C dX5_bookInto_103 (by decide) rfl rfl ?_
  exact v_lv [1, 2, 3, 0] rfl (bf5_bookInto_Q C E  5 _ _ (sX5_bookInto_P _ _ _ hs) UP.start  hres)
theorem mX5_bookInto (l : Launch) (Λ : LY) (σ : St) (hs : Safe σ) : CT l Λ yX5_bookInto cX5_bookInto 6 none 2 45 [.ref (adr Λ 3), .ref (adr Λ 5), .ref (adr Λ 1)] σ none (f5_bookInto σ) := by
  refine CT_of (by decide +kernel) (Nat.le_of_ble_eq_true rfl) ?_
  intro X hX C E
  obtain ⟨res, hres⟩ : ∃ r, (f5_bookInto σ) = r := ⟨_, rfl⟩
  rw [hres] at E
  exact bf5_bookInto C E _  hs hres
theorem sX5_bookInto_Q  : ∀ (n : Nat) (σ : St) (j : Int32), Safe σ → Safe (f5_bookInto_Q n σ j) := by
  intro n
  induction n with
  | zero => intro σ j h; exact h
  | succ n ih =>
    intro σ j h
    rw [f5_bookInto_Q]
    split
    · exact h
    · exact ih _ _ (sf_B (sf_B (sf_B (sX5_rank h))))
theorem sX5_bookInto {σ : St} (h : Safe σ) : Safe (f5_bookInto σ) := sX5_bookInto_Q _ _ _ (sX5_bookInto_P _ _ _ h)
def f1_begin_L : Nat → St → Int32 → St
  | 0, σ, _ => (σ)
  | n + 1, σ, j => (if (6 : Int32) ≤ j then σ else (f1_begin_L n (uB σ 2 (Int32.toNatClampNeg j) (0 : Int64)) (j + (1 : Int32))))
set_option maxHeartbeats 4000000 in
set_option maxRecDepth 100000 in
theorem bf1_begin_L {X : CX} {Λ : LY} (C : OK X Λ cX1_begin 4 RX1 0 0) {res : St} (E : EN X Λ none none res)  : ∀ (n : Nat) (σ : St) (j : Int32), (hu : UP 6 j n) → (f1_begin_L n σ j) = res → VV X Λ 4 17 [(0, .ref (adr Λ 5)), (3, .int (j))] [] σ := by
  intro n
  induction n with
  | zero => intro σ j hu hres; exact absurd hu (fun h => h.z)
  | succ n ih =>
    intro σ j hu hres
    rw [f1_begin_L] at hres
    refine v_iload_n (pc2 := 18) C 1 dX1_begin_17 rfl rfl ?_
    refine v_bipush (pc2 := 20) C dX1_begin_18 kb_6 rfl ?_
    refine v_icmpge (pc2 := 36) (pc3 := 23) C dX1_begin_20 rfl rfl (fun h20 => ?_) (fun h20 => ?_)
    · have hres := (if_pos h20).symm.trans hres
      exact r_vS C E hres dX1_begin_36
    · have hres := (if_neg h20).symm.trans hres
      refine v_aload_n (pc2 := 24) C 0 dX1_begin_23 rfl rfl ?_
      refine vg_X1_latest (pc2 := 27) C lf_X1_9 dX1_begin_24 rfl ?_
      refine v_iload_n (pc2 := 28) C 1 dX1_begin_27 rfl rfl ?_
      refine v_lconst (pc2 := 29) C dX1_begin_28 kl_0 rfl ?_
      refine as20 (pc2 := 30) C (hu.in h20 (by rw [lit_6]; decide)) dX1_begin_29 rfl ?_
      refine v_iinc (pc2 := 33) (lv2 := [(3, _), (0, _)]) C 1 dX1_begin_30 rfl ki_1 (by decide) rfl rfl ?_
      refine v_goto (pc2 := 17) C dX1_begin_33 rfl ?_
      exact v_lv [1, 0] rfl (ih _ _ (hu.step h20 (by rw [lit_6]; decide) (by decide)) hres)
def f1_begin (σ : St) (a1 : Int32) (a2 : Int32) : St :=
  (f1_begin_L 7 (uI (uI (uI σ 8 (1 : Int32)) 10 a1) 9 a2) (0 : Int32))
set_option maxHeartbeats 4000000 in
set_option maxRecDepth 100000 in
theorem bf1_begin {X : CX} {Λ : LY} (C : OK X Λ cX1_begin 4 RX1 0 0) {res : St} (E : EN X Λ none none res) (σ : St) (a1 : Int32) (a2 : Int32)  (hres : (f1_begin σ a1 a2) = res) : VV X Λ 4 0 [(0, .ref (adr Λ 5)), (1, .int (a1)), (2, .int (a2))] [] σ := by
  unfold f1_begin at hres
  refine v_aload_n (pc2 := 1) C 0 dX1_begin_0 rfl rfl ?_
  refine v_iconst (pc2 := 2) C dX1_begin_1 ki_1 rfl ?_
  refine vp_X1_isBegun (pc2 := 5) C (Or.inr rfl) lf_X1_18 dX1_begin_2 rfl ?_
  refine v_aload_n (pc2 := 6) C 0 dX1_begin_5 rfl rfl ?_
  refine v_iload_n (pc2 := 7) C 1 dX1_begin_6 rfl rfl ?_
  refine vp_X1_whichHour (pc2 := 10) C lf_X1_26 dX1_begin_7 rfl ?_
  refine v_aload_n (pc2 := 11) C 0 dX1_begin_10 rfl rfl ?_
  refine v_iload_n (pc2 := 12) C 2 dX1_begin_11 rfl rfl ?_
  refine vp_X1_state (pc2 := 15) C lf_X1_22 dX1_begin_12 rfl ?_
  refine v_iconst (pc2 := 16) C dX1_begin_15 ki_0 rfl ?_
  refine v_istore_n (pc2 := 17) (lv2 := [(3, _), (0, _), (1, _), (2, _)]) C dX1_begin_16 (by decide) rfl rfl ?_
  exact v_lv [1, 0] rfl (bf1_begin_L C E  7 _ _ UP.start  hres)
theorem mX1_begin (l : Launch) (Λ : LY) (σ : St) (a1 : Int32) (a2 : Int32)  : CT l Λ yX1_begin cX1_begin 4 none 0 0 [.ref (adr Λ 5), .int (a1), .int (a2)] σ none (f1_begin σ a1 a2) := by
  refine CT_of (by decide +kernel) (Nat.le_of_ble_eq_true rfl) ?_
  intro X hX C E
  obtain ⟨res, hres⟩ : ∃ r, (f1_begin σ a1 a2) = r := ⟨_, rfl⟩
  rw [hres] at E
  exact bf1_begin C E _ _ _   hres
theorem sX1_begin_L  : ∀ (n : Nat) (σ : St) (j : Int32), Safe σ → Safe (f1_begin_L n σ j) := by
  intro n
  induction n with
  | zero => intro σ j h; exact h
  | succ n ih =>
    intro σ j h
    rw [f1_begin_L]
    repeat' split
    all_goals first | exact h | (refine ih _ _ ?_; repeat' (first | assumption | apply sf_B))
theorem sX1_begin {σ : St} {a b : Int32} (h : Safe σ) : Safe (f1_begin σ a b) := sX1_begin_L _ _ _ (sf_I (by decide) (sf_I (by decide) (sf_I (by decide) h)))
def f1_addToSums_L : Nat → St → Int32 → St
  | 0, σ, _ => (σ)
  | n + 1, σ, j => (if (6 : Int32) ≤ j then σ else (f1_addToSums_L n (uB σ 3 (Int32.toNatClampNeg j) ((gB σ 3 (Int32.toNatClampNeg j)) + (gB σ 2 (Int32.toNatClampNeg j)))) (j + (1 : Int32))))
set_option maxHeartbeats 4000000 in
set_option maxRecDepth 100000 in
theorem bf1_addToSums_L {X : CX} {Λ : LY} (C : OK X Λ cX1_addToSums 2 RX1 0 0) {res : St} (E : EN X Λ none none res)  : ∀ (n : Nat) (σ : St) (j : Int32), (hu : UP 6 j n) → (f1_addToSums_L n σ j) = res → VV X Λ 2 2 [(0, .ref (adr Λ 5)), (1, .int (j))] [] σ := by
  intro n
  induction n with
  | zero => intro σ j hu hres; exact absurd hu (fun h => h.z)
  | succ n ih =>
    intro σ j hu hres
    rw [f1_addToSums_L] at hres
    refine v_iload_n (pc2 := 3) C 1 dX1_addToSums_2 rfl rfl ?_
    refine v_bipush (pc2 := 5) C dX1_addToSums_3 kb_6 rfl ?_
    refine v_icmpge (pc2 := 29) (pc3 := 8) C dX1_addToSums_5 rfl rfl (fun h5 => ?_) (fun h5 => ?_)
    · have hres := (if_pos h5).symm.trans hres
      exact r_vS C E hres dX1_addToSums_29
    · have hres := (if_neg h5).symm.trans hres
      refine v_aload_n (pc2 := 9) C 0 dX1_addToSums_8 rfl rfl ?_
      refine vg_X1_sums (pc2 := 12) C lf_X1_15 dX1_addToSums_9 rfl ?_
      refine v_iload_n (pc2 := 13) C 1 dX1_addToSums_12 rfl rfl ?_
      refine v_dup2 (pc2 := 14) C dX1_addToSums_13 rfl rfl rfl ?_
      refine al21 (pc2 := 15) C (hu.in h5 (by rw [lit_6]; decide)) dX1_addToSums_14 rfl ?_
      refine v_aload_n (pc2 := 16) C 0 dX1_addToSums_15 rfl rfl ?_
      refine vg_X1_latest (pc2 := 19) C lf_X1_9 dX1_addToSums_16 rfl ?_
      refine v_iload_n (pc2 := 20) C 1 dX1_addToSums_19 rfl rfl ?_
      refine al20 (pc2 := 21) C (hu.in h5 (by rw [lit_6]; decide)) dX1_addToSums_20 rfl ?_
      refine v_ladd (pc2 := 22) C dX1_addToSums_21 rfl ?_
      refine as21 (pc2 := 23) C (hu.in h5 (by rw [lit_6]; decide)) dX1_addToSums_22 rfl ?_
      refine v_iinc (pc2 := 26) (lv2 := [(1, _), (0, _)]) C 1 dX1_addToSums_23 rfl ki_1 (by decide) rfl rfl ?_
      refine v_goto (pc2 := 2) C dX1_addToSums_26 rfl ?_
      exact v_lv [1, 0] rfl (ih _ _ (hu.step h5 (by rw [lit_6]; decide) (by decide)) hres)
def f1_addToSums (σ : St) : St :=
  (f1_addToSums_L 7 σ (0 : Int32))
set_option maxHeartbeats 4000000 in
set_option maxRecDepth 100000 in
theorem bf1_addToSums {X : CX} {Λ : LY} (C : OK X Λ cX1_addToSums 2 RX1 0 0) {res : St} (E : EN X Λ none none res) (σ : St)  (hres : (f1_addToSums σ) = res) : VV X Λ 2 0 [(0, .ref (adr Λ 5))] [] σ := by
  unfold f1_addToSums at hres
  refine v_iconst (pc2 := 1) C dX1_addToSums_0 ki_0 rfl ?_
  refine v_istore_n (pc2 := 2) (lv2 := [(1, _), (0, _)]) C dX1_addToSums_1 (by decide) rfl rfl ?_
  exact v_lv [1, 0] rfl (bf1_addToSums_L C E  7 _ _ UP.start  hres)
theorem mX1_addToSums (l : Launch) (Λ : LY) (σ : St)  : CT l Λ yX1_addToSums cX1_addToSums 2 none 0 0 [.ref (adr Λ 5)] σ none (f1_addToSums σ) := by
  refine CT_of (by decide +kernel) (Nat.le_of_ble_eq_true rfl) ?_
  intro X hX C E
  obtain ⟨res, hres⟩ : ∃ r, (f1_addToSums σ) = r := ⟨_, rfl⟩
  rw [hres] at E
  exact bf1_addToSums C E _   hres
theorem sX1_addToSums_L  : ∀ (n : Nat) (σ : St) (j : Int32), Safe σ → Safe (f1_addToSums_L n σ j) := by
  intro n
  induction n with
  | zero => intro σ j h; exact h
  | succ n ih =>
    intro σ j h
    rw [f1_addToSums_L]
    repeat' split
    all_goals first | exact h | (refine ih _ _ ?_; repeat' (first | assumption | apply sf_B))
theorem sX1_addToSums {σ : St} (h : Safe σ) : Safe (f1_addToSums σ) := sX1_addToSums_L _ _ _ h
def f7_choose_I (a2 : Int32) (a3 : Int32) (fi : Int32) (fg : Int64) : Nat → St → Int64 → Int32 → Int32 → St
  | 0, σ, _, _, _ => (σ)
  | n + 1, σ, inn, iset, la => (if (gI σ 2) ≤ la then σ else (if (f7_gain σ (Int32.toNatClampNeg la) a2 a3) ≤ (0 : Int64) then (f7_choose_I a2 a3 fi fg n (f7_take σ (((fg + inn) + (f7_gain σ (Int32.toNatClampNeg la) a2 a3)) - ((10 : Int64) * (Int32.toInt64 ((la - fi) + (1 : Int32))))) ((((1 : Int32) <<< (fi &&& 31)) ||| iset) ||| ((1 : Int32) <<< (la &&& 31)))) inn iset (la + (1 : Int32))) else (f7_choose_I a2 a3 fi fg n (f7_take σ (((fg + inn) + (f7_gain σ (Int32.toNatClampNeg la) a2 a3)) - ((10 : Int64) * (Int32.toInt64 ((la - fi) + (1 : Int32))))) ((((1 : Int32) <<< (fi &&& 31)) ||| iset) ||| ((1 : Int32) <<< (la &&& 31)))) (inn + (f7_gain σ (Int32.toNatClampNeg la) a2 a3)) (iset ||| ((1 : Int32) <<< (la &&& 31))) (la + (1 : Int32)))))
set_option maxHeartbeats 4000000 in
set_option maxRecDepth 100000 in
theorem bf7_choose_I {X : CX} {Λ : LY} (C : OK X Λ cX7_choose 13 RX7 1 23) {out : St} (a2 : Int32) (a3 : Int32) (fi : Int32) (fg : Int64) (k : VV X Λ 13 151 [(0, .ref (adr Λ 6)), (1, .ref (adr Λ 1)), (2, .int (a2)), (3, .int (a3)), (4, .int (fi))] [] (out)) : ∀ (n : Nat) (σ : St) (inn : Int64) (iset : Int32) (la : Int32), (hs : Safe σ) → (hv : UP 10 la n) → (f7_choose_I a2 a3 fi fg n σ inn iset la) = out → VV X Λ 13 62 [(0, .ref (adr Λ 6)), (1, .ref (adr Λ 1)), (2, .int (a2)), (3, .int (a3)), (4, .int (fi)), (5, .long (inn)), (7, .int (iset)), (8, .long (fg)), (10, .int (la))] [] σ := by
  intro n
  induction n with
  | zero => intro σ inn iset la hs hv hres; exact absurd hv (fun h => h.z)
  | succ n ih =>
    intro σ inn iset la hs hv hres
    rw [f7_choose_I] at hres
    refine v_iload (pc2 := 64) C 8 dX7_choose_62 rfl rfl ?_
    refine v_aload_n (pc2 := 65) C 1 dX7_choose_64 rfl rfl ?_
    refine vg_X0_count (pc2 := 68) C lf_X7_17 dX7_choose_65 rfl ?_
    refine v_icmpge (pc2 := 151) (pc3 := 71) C dX7_choose_68 rfl rfl (fun h68 => ?_) (fun h68 => ?_)
    · have hres := (if_pos h68).symm.trans hres
      subst hres
      exact v_lv [0, 1, 2, 3, 4] rfl k
    · have hres := (if_neg h68).symm.trans hres
      refine v_aload_n (pc2 := 72) C 1 dX7_choose_71 rfl rfl ?_
      refine vg_X0_rows (pc2 := 75) C lf_X7_22 dX7_choose_72 rfl ?_
      refine v_iload (pc2 := 77) C 8 dX7_choose_75 rfl rfl ?_
      have in77 : vp_in la 10 := hv.in h68 hs.cnt.2
      refine v_aald (pc2 := 78) C in77 dX7_choose_77 rfl ?_
      refine v_iload_n (pc2 := 79) C 2 dX7_choose_78 rfl rfl ?_
      refine v_iload_n (pc2 := 80) C 3 dX7_choose_79 rfl rfl ?_
      refine v_cSl (pc2 := 83) C kc_X7_26 (mX7_gain (xl X) Λ _ _ (vlt in77) _ _) (by decide) rfl rfl (Nat.le_of_ble_eq_true rfl) dX7_choose_80 rfl ?_
      refine v_lstore (pc2 := 85) (lv2 := [(11, _), (0, _), (1, _), (2, _), (3, _), (4, _), (5, _), (7, _), (8, _), (10, _)]) C dX7_choose_83 (by decide) rfl rfl ?_
      refine v_aload_n (pc2 := 86) C 1 dX7_choose_85 rfl rfl ?_
      refine v_lload (pc2 := 88) C 8 dX7_choose_86 rfl rfl ?_
      refine v_lload (pc2 := 90) C 6 dX7_choose_88 rfl rfl ?_
      refine v_ladd (pc2 := 91) C dX7_choose_90 rfl ?_
      refine v_lload (pc2 := 93) C 0 dX7_choose_91 rfl rfl ?_
      refine v_ladd (pc2 := 94) C dX7_choose_93 rfl ?_
      refine v_ldc2 (pc2 := 97) C lc_X7_30 dX7_choose_94 rfl ?_
      refine v_iload (pc2 := 99) C 9 dX7_choose_97 rfl rfl ?_
      refine v_iload (pc2 := 101) C 5 dX7_choose_99 rfl rfl ?_
      refine v_isub (pc2 := 102) C dX7_choose_101 rfl ?_
      refine v_iconst (pc2 := 103) C dX7_choose_102 ki_1 rfl ?_
      refine v_iadd (pc2 := 104) C dX7_choose_103 rfl ?_
      refine v_i2l (pc2 := 105) C dX7_choose_104 rfl ?_
      refine v_lmul (pc2 := 106) C dX7_choose_105 rfl ?_
      refine v_lsub (pc2 := 107) C dX7_choose_106 rfl ?_
      refine v_iconst (pc2 := 108) C dX7_choose_107 ki_1 rfl ?_
      refine v_iload (pc2 := 110) C 5 dX7_choose_108 rfl rfl ?_
      refine v_ishl (pc2 := 111) C dX7_choose_110 rfl ?_
      refine v_iload (pc2 := 113) C 7 dX7_choose_111 rfl rfl ?_
      refine v_ior (pc2 := 114) C dX7_choose_113 rfl ?_
      refine v_iconst (pc2 := 115) C dX7_choose_114 ki_1 rfl ?_
      refine v_iload (pc2 := 117) C 9 dX7_choose_115 rfl rfl ?_
      refine v_ishl (pc2 := 118) C dX7_choose_117 rfl ?_
      refine v_ior (pc2 := 119) C dX7_choose_118 rfl ?_
      refine v_cVv (pc2 := 122) C kc_X7_32 (mX7_take (xl X) Λ _ _ _) (wd6 Λ _) rfl (by decide) rfl rfl (Nat.le_of_ble_eq_true rfl) dX7_choose_119 rfl ?_
      refine v_lload (pc2 := 124) C 0 dX7_choose_122 rfl rfl ?_
      refine v_lconst (pc2 := 125) C dX7_choose_124 kl_0 rfl ?_
      refine v_lcle (pc2 := 145) (pc3 := 129) C dX7_choose_125 dX7_choose_126 rfl rfl (fun h125 => ?_) (fun h125 => ?_)
      · have hres := (if_pos h125).symm.trans hres
        refine v_iinc (pc2 := 148) (lv2 := [(10, _), (11, _), (0, _), (1, _), (2, _), (3, _), (4, _), (5, _), (7, _), (8, _)]) C 9 dX7_choose_145 rfl ki_1 (by decide) rfl rfl ?_
        refine v_goto (pc2 := 62) C dX7_choose_148 rfl ?_
        exact v_lv [2, 3, 4, 5, 6, 7, 8, 9, 0] rfl (ih _ _ _ _ (sX7_take hs) (hv.step h68 hs.cnt.2 (by decide)) hres)
      · have hres := (if_neg h125).symm.trans hres
        refine v_lload (pc2 := 131) C 6 dX7_choose_129 rfl rfl ?_
        refine v_lload (pc2 := 133) C 0 dX7_choose_131 rfl rfl ?_
        refine v_ladd (pc2 := 134) C dX7_choose_133 rfl ?_
        refine v_lstore (pc2 := 136) (lv2 := [(5, _), (11, _), (0, _), (1, _), (2, _), (3, _), (4, _), (7, _), (8, _), (10, _)]) C dX7_choose_134 (by decide) rfl rfl ?_
        refine v_iload (pc2 := 138) C 7 dX7_choose_136 rfl rfl ?_
        refine v_iconst (pc2 := 139) C dX7_choose_138 ki_1 rfl ?_
        refine v_iload (pc2 := 141) C 9 dX7_choose_139 rfl rfl ?_
        refine v_ishl (pc2 := 142) C dX7_choose_141 rfl ?_
        refine v_ior (pc2 := 143) C dX7_choose_142 rfl ?_
        refine v_istore (pc2 := 145) (lv2 := [(7, _), (5, _), (11, _), (0, _), (1, _), (2, _), (3, _), (4, _), (8, _), (10, _)]) C dX7_choose_143 (by decide) rfl rfl ?_
        refine v_iinc (pc2 := 148) (lv2 := [(10, _), (7, _), (5, _), (11, _), (0, _), (1, _), (2, _), (3, _), (4, _), (8, _)]) C 9 dX7_choose_145 rfl ki_1 (by decide) rfl rfl ?_
        refine v_goto (pc2 := 62) C dX7_choose_148 rfl ?_
        exact v_lv [4, 5, 6, 7, 8, 2, 1, 9, 0] rfl (ih _ _ _ _ (sX7_take hs) (hv.step h68 hs.cnt.2 (by decide)) hres)
theorem sX7_choose_I {a b fi : Int32} {fg : Int64} : ∀ (n : Nat) (σ : St) (inn : Int64) (iset : Int32) (la : Int32), Safe σ → Safe (f7_choose_I a b fi fg n σ inn iset la) := by
  intro n
  induction n with
  | zero => intro σ inn iset la h; exact h
  | succ n ih =>
    intro σ inn iset la h
    rw [f7_choose_I]
    split
    · exact h
    · split <;> exact ih _ _ _ _ (sX7_take h)
def f7_choose_L (a2 : Int32) (a3 : Int32) : Nat → St → Int32 → St
  | 0, σ, _ => (σ)
  | n + 1, σ, fi => (if (gI σ 2) ≤ fi then σ else (f7_choose_L a2 a3 n (f7_choose_I a2 a3 fi (f7_gain σ (Int32.toNatClampNeg fi) a2 a3) 11 (f7_take σ ((f7_gain σ (Int32.toNatClampNeg fi) a2 a3) - (10 : Int64)) ((1 : Int32) <<< (fi &&& 31))) (0 : Int64) (0 : Int32) (fi + (1 : Int32))) (fi + (1 : Int32))))
set_option maxHeartbeats 4000000 in
set_option maxRecDepth 100000 in
theorem bf7_choose_L {X : CX} {Λ : LY} (C : OK X Λ cX7_choose 13 RX7 1 23) {res : St} (E : EN X Λ none none res) (a2 : Int32) (a3 : Int32)  : ∀ (n : Nat) (σ : St) (fi : Int32), (hs : Safe σ) → (hu : UP 10 fi n) → (f7_choose_L a2 a3 n σ fi) = res → VV X Λ 13 13 [(0, .ref (adr Λ 6)), (1, .ref (adr Λ 1)), (2, .int (a2)), (3, .int (a3)), (4, .int (fi))] [] σ := by
  intro n
  induction n with
  | zero => intro σ fi hs hu hres; exact absurd hu (fun h => h.z)
  | succ n ih =>
    intro σ fi hs hu hres
    rw [f7_choose_L] at hres
    refine v_iload (pc2 := 15) C 4 dX7_choose_13 rfl rfl ?_
    refine v_aload_n (pc2 := 16) C 1 dX7_choose_15 rfl rfl ?_
    refine vg_X0_count (pc2 := 19) C lf_X7_17 dX7_choose_16 rfl ?_
    refine v_icmpge (pc2 := 157) (pc3 := 22) C dX7_choose_19 rfl rfl (fun h19 => ?_) (fun h19 => ?_)
    · have hres := (if_pos h19).symm.trans hres
      exact r_vS C E hres dX7_choose_157
    · have hres := (if_neg h19).symm.trans hres
      refine v_lconst (pc2 := 23) C dX7_choose_22 kl_0 rfl ?_
      refine v_lstore (pc2 := 25) (lv2 := [(5, _), (0, _), (1, _), (2, _), (3, _), (4, _)]) C dX7_choose_23 (by decide) rfl rfl ?_
      refine v_iconst (pc2 := 26) C dX7_choose_25 ki_0 rfl ?_
      refine v_istore (pc2 := 28) (lv2 := [(7, _), (5, _), (0, _), (1, _), (2, _), (3, _), (4, _)]) C dX7_choose_26 (by decide) rfl rfl ?_
      refine v_aload_n (pc2 := 29) C 3 dX7_choose_28 rfl rfl ?_
      refine vg_X0_rows (pc2 := 32) C lf_X7_22 dX7_choose_29 rfl ?_
      refine v_iload (pc2 := 34) C 6 dX7_choose_32 rfl rfl ?_
      have in34 : vp_in fi 10 := hu.in h19 hs.cnt.2
      refine v_aald (pc2 := 35) C in34 dX7_choose_34 rfl ?_
      refine v_iload_n (pc2 := 36) C 4 dX7_choose_35 rfl rfl ?_
      refine v_iload_n (pc2 := 37) C 5 dX7_choose_36 rfl rfl ?_
      refine v_cSl (pc2 := 40) C kc_X7_26 (mX7_gain (xl X) Λ _ _ (vlt in34) _ _) (by decide) rfl rfl (Nat.le_of_ble_eq_true rfl) dX7_choose_37 rfl ?_
      refine v_lstore (pc2 := 42) (lv2 := [(8, _), (7, _), (5, _), (0, _), (1, _), (2, _), (3, _), (4, _)]) C dX7_choose_40 (by decide) rfl rfl ?_
      refine v_aload_n (pc2 := 43) C 3 dX7_choose_42 rfl rfl ?_
      refine v_lload (pc2 := 45) C 0 dX7_choose_43 rfl rfl ?_
      refine v_ldc2 (pc2 := 48) C lc_X7_30 dX7_choose_45 rfl ?_
      refine v_lsub (pc2 := 49) C dX7_choose_48 rfl ?_
      refine v_iconst (pc2 := 50) C dX7_choose_49 ki_1 rfl ?_
      refine v_iload (pc2 := 52) C 7 dX7_choose_50 rfl rfl ?_
      refine v_ishl (pc2 := 53) C dX7_choose_52 rfl ?_
      refine v_cVv (pc2 := 56) C kc_X7_32 (mX7_take (xl X) Λ _ _ _) (wd6 Λ _) rfl (by decide) rfl rfl (Nat.le_of_ble_eq_true rfl) dX7_choose_53 rfl ?_
      refine v_iload (pc2 := 58) C 7 dX7_choose_56 rfl rfl ?_
      refine v_iconst (pc2 := 59) C dX7_choose_58 ki_1 rfl ?_
      refine v_iadd (pc2 := 60) C dX7_choose_59 rfl ?_
      refine v_istore (pc2 := 62) (lv2 := [(10, _), (8, _), (7, _), (5, _), (0, _), (1, _), (2, _), (3, _), (4, _)]) C dX7_choose_60 (by decide) rfl rfl ?_
      refine v_lv [4, 5, 6, 7, 8, 3, 2, 1, 0] rfl ?_
      refine bf7_choose_I C a2 a3 fi (f7_gain σ (Int32.toNatClampNeg fi) a2 a3) (out := (f7_choose_I a2 a3 fi (f7_gain σ (Int32.toNatClampNeg fi) a2 a3) 11 (f7_take σ ((f7_gain σ (Int32.toNatClampNeg fi) a2 a3) - (10 : Int64)) ((1 : Int32) <<< (fi &&& 31))) (0 : Int64) (0 : Int32) (fi + (1 : Int32)))) ?_ 11 (f7_take σ ((f7_gain σ (Int32.toNatClampNeg fi) a2 a3) - (10 : Int64)) ((1 : Int32) <<< (fi &&& 31))) (0 : Int64) (0 : Int32) (fi + (1 : Int32)) (sX7_take hs) (by have := vp_in_iff.mp in34; exact ⟨by rw [i_add1 (b := 10) (by omega) (by omega)]; omega, by rw [i_add1 (b := 10) (by omega) (by omega)]; omega, by rw [i_add1 (b := 10) (by omega) (by omega)]; omega⟩) rfl
      refine v_iinc (pc2 := 154) (lv2 := [(4, _), (0, _), (1, _), (2, _), (3, _)]) C 4 dX7_choose_151 rfl ki_1 (by decide) rfl rfl ?_
      refine v_goto (pc2 := 13) C dX7_choose_154 rfl ?_
      exact v_lv [1, 2, 3, 4, 0] rfl (ih _ _ (sX7_choose_I _ _ _ _ _ (sX7_take hs)) (hu.step h19 hs.cnt.2 (by decide)) hres)
def f7_choose (σ : St) (a2 : Int32) (a3 : Int32) : St :=
  (f7_choose_L a2 a3 11 (uJ (uI σ 11 (0 : Int32)) 0 (0 : Int64)) (0 : Int32))
set_option maxHeartbeats 4000000 in
set_option maxRecDepth 100000 in
theorem bf7_choose {X : CX} {Λ : LY} (C : OK X Λ cX7_choose 13 RX7 1 23) {res : St} (E : EN X Λ none none res) (σ : St) (a2 : Int32) (a3 : Int32) (hs : Safe σ) (hres : (f7_choose σ a2 a3) = res) : VV X Λ 13 0 [(0, .ref (adr Λ 6)), (1, .ref (adr Λ 1)), (2, .int (a2)), (3, .int (a3))] [] σ := by
  unfold f7_choose at hres
  refine v_aload_n (pc2 := 1) C 0 dX7_choose_0 rfl rfl ?_
  refine v_iconst (pc2 := 2) C dX7_choose_1 ki_0 rfl ?_
  refine vp_X7_bestSet (pc2 := 5) C lf_X7_7 dX7_choose_2 rfl ?_
  refine v_aload_n (pc2 := 6) C 0 dX7_choose_5 rfl rfl ?_
  refine v_lconst (pc2 := 7) C dX7_choose_6 kl_0 rfl ?_
  refine vp_X7_bestValue (pc2 := 10) C lf_X7_13 dX7_choose_7 rfl ?_
  refine v_iconst (pc2 := 11) C dX7_choose_10 ki_0 rfl ?_
  refine v_istore (pc2 := 13) (lv2 := [(4, _), (0, _), (1, _), (2, _), (3, _)]) C dX7_choose_11 (by decide) rfl rfl ?_
  exact v_lv [1, 2, 3, 4, 0] rfl (bf7_choose_L C E _ _ 11 _ _ (sf_J (sf_I (by decide) hs)) UP.start  hres)
theorem mX7_choose (l : Launch) (Λ : LY) (σ : St) (a2 : Int32) (a3 : Int32) (hs : Safe σ) : CT l Λ yX7_choose cX7_choose 13 none 1 23 [.ref (adr Λ 6), .ref (adr Λ 1), .int (a2), .int (a3)] σ none (f7_choose σ a2 a3) := by
  refine CT_of (by decide +kernel) (Nat.le_of_ble_eq_true rfl) ?_
  intro X hX C E
  obtain ⟨res, hres⟩ : ∃ r, (f7_choose σ a2 a3) = r := ⟨_, rfl⟩
  rw [hres] at E
  exact bf7_choose C E _ _ _  hs hres
theorem sX7_choose_L {a b : Int32} : ∀ (n : Nat) (σ : St) (fi : Int32), Safe σ → Safe (f7_choose_L a b n σ fi) := by
  intro n
  induction n with
  | zero => intro σ fi h; exact h
  | succ n ih =>
    intro σ fi h
    rw [f7_choose_L]
    split
    · exact h
    · exact ih _ _ (sX7_choose_I _ _ _ _ _ (sX7_take h))
theorem sX7_choose {σ : St} {a b : Int32} (h : Safe σ) : Safe (f7_choose σ a b) := sX7_choose_L _ _ _ (sf_J (sf_I (by decide) h))
